import java.util.List;
import java.util.function.ToLongFunction;

/** Edges of the terms, and of promises 1 (a new object) to 14 (sheet). */
public final class TextEdgeTests extends Edges {
    private static final ToLongFunction<BluesAndGreens> DRIVERS = BluesAndGreens::drivers;
    private static final ToLongFunction<BluesAndGreens> QUARTERS = BluesAndGreens::quarters;
    private static final ToLongFunction<BluesAndGreens> QUARRELS = BluesAndGreens::quarrels;
    private static final ToLongFunction<BluesAndGreens> RULE = BluesAndGreens::rule;
    /** Five of these are 70 signs; a QUARTER of 6 signs more makes 76. */
    private static final String FULL_QUARTER = "99b0abcdefghi;";

    // ---- the terms

    private static void money() {
        edge(0, "MONEY at first 100", () -> {
            due("blue", new BluesAndGreens().club(0, 0), 100);
            due("green", new BluesAndGreens().club(1, 0), 100);
        });
        edge(0, "MONEY of its CLUB 10 more (9999 at most)", () -> {
            BluesAndGreens x = city("10b;10g", "", "");
            rule(x, "0");
            races(x, 989);
            due("behind 989 RACES", x.club(0, 0), 9990);
            x.race(1);
            due("cut", x.club(0, 0), 9999);
            x.race(1);
            due("no more than that", x.club(0, 0), 9999);
            due("MONEY of the other one", x.club(1, 0), 100);
            x.undo();
            x.undo();
            due("undone", x.club(0, 0), 9990);
        });
        edge(0, "MONEY 0 .. 9999: 9999 itself is reached", () -> {
            BluesAndGreens x = city("11b;10g", "", "");
            x.buy(1, 0);
            races(x, 989);
            due("behind 989 RACES", x.club(1, 0), 9989);
            x.race(1);
            due("behind 990", x.club(1, 0), 9999);
            x.race(1);
            due("behind 991", x.club(1, 0), 9999);
            due("WINS go on", x.club(1, 2), 991);
        });
        edge(0, "MONEY 0 .. 9999: 0 is the least", () -> {
            BluesAndGreens x = city("150b;150b;10g", "", "");
            due("the first half", x.buy(1, 0), 50);
            due("the other half", x.buy(1, 1), 0);
            due("nothing is left", x.buy(0, 2), 200);
            x.undo();
            due("a curse with nothing left", x.curse(1, 1), -2);
            x.buy(0, 2);
            due("a curse with nothing left", x.curse(1, 2), -4);
            due("MONEY", x.club(1, 0), 0);
        });
    }

    private static void anger() {
        edge(0, "ANGER at first 0, WINS at first 0", () -> {
            for (int i = 0; i < 4; i++) {
                due("club " + i / 2, new BluesAndGreens().club(i / 2, 1 + i % 2), 0);
            }
        });
        edge(0, "ANGER of the other CLUB 3 more (999 at most)", () -> {
            for (int first = 0; first < 3; first++) {
                BluesAndGreens x = city("10b", "", "00" + first + "0");
                x.show(0, 0);
                races(x, 332);
                due("ANGER of green behind 332 RACES", x.club(1, 1), 996 + first);
                x.race(1);
                due("ANGER of green behind 333", x.club(1, 1), 999);
                x.race(1);
                due("ANGER of green behind 334", x.club(1, 1), 999);
                x.undo();
                x.undo();
                due("undone", x.club(1, 1), 996 + first);
            }
        });
        edge(0, "ANGER of its own 1 less (0 at least)", () -> {
            BluesAndGreens x = city("10g", "", "0020");
            x.show(0, 0);
            int[] left = {1, 0, 0};
            for (int anger : left) {
                x.race(1);
                due("ANGER of green", x.club(1, 1), anger);
            }
            due("ANGER of blue", x.club(0, 1), 9);
        });
        edge(0, "they JOIN, if ANGER of both is LIMIT or more", () -> {
            String[] quarrels = {"7080", "8070", "7070", "0090", "9000"};
            int[] lesser = {7, 7, 7, 0, 0};
            for (int i = 0; i < quarrels.length; i++) {
                BluesAndGreens x = city("", "", quarrels[i]);
                x.show(0, 0);
                x.limit(Math.max(1, lesser[i]));
                due(quarrels[i] + " at LIMIT", x.count(5), lesser[i] > 0 ? 1 : 0);
                x.limit(lesser[i] + 1);
                due(quarrels[i] + " below LIMIT", x.count(5), 0);
                x.limit(1);
                due(quarrels[i] + " above LIMIT", x.count(5), lesser[i] > 0 ? 1 : 0);
            }
        });
        edge(0, "LIMIT (at first 20)", () -> {
            due("LIMIT", new BluesAndGreens().count(3), 20);
            String[] last = {"2020", "1020", "2010", "3020"};
            int[] joined = {1, 0, 0, 1};
            for (int i = 0; i < last.length; i++) {
                BluesAndGreens x = city("", "", "9090;9090;" + last[i]);
                due("the first", x.show(0, 0), 0);
                due("the second", x.show(1, 0), 0);
                due("the last, " + last[i], x.show(2, 0), joined[i]);
                due("they JOIN", x.count(5), joined[i]);
            }
        });
    }

    private static void racing() {
        edge(0, "the most STRENGTH wins (of equal ones the first)", () -> {
            BluesAndGreens x = city("10g;10b;10b", "", "");
            rule(x, "5");
            x.race(1);
            due("all being equal", x.driver(0, 4), 1);
            rule(x, "i>0");
            x.race(1);
            due("the last two being equal", x.driver(1, 4), 1);
            rule(x, "i>1");
            x.race(1);
            due("the last one alone", x.driver(2, 4), 1);
            rule(x, "-1");
            x.race(1);
            due("all being equal, below 0", x.driver(0, 4), 2);
        });
        edge(0, "STRENGTH as ints: the most is no difference", () -> {
            // the least int, and 1 less, which is the most one
            BluesAndGreens x = city("10g;10b;10b", "", "");
            rule(x, "512*512*512*16-i");
            due("STRENGTH of the first", x.strength(0), MIN);
            due("STRENGTH of the second", x.strength(1), MAX);
            due("order()", x.order(), 1);
            row("order()", x, 1, 2, 0);
            x.race(1);
            due("WON", x.driver(1, 4), 1);
        });
        edge(0, "RACE is 1 more, at first 0; n RACE by 8 (rest)", () -> {
            BluesAndGreens x = city("10b", "", "");
            rule(x, "n");
            for (int race = 0; race < 18; race++) {
                due("RACE", x.count(4), race);
                due("n of RACE " + race, x.strength(0), race % 8);
                x.race(1);
            }
        });
        edge(0, "at most 512 calls: RACE, WINS and WON have no most", () -> {
            BluesAndGreens x = new BluesAndGreens();
            x.sign('1' << 24 | '0' << 16 | 'b' << 8);
            x.end(3);
            x.drivers();
            for (int call = 4; call <= 508; call++) {
                x.race(60);
            }
            due("RACE, by call 509", x.count(4), 30300);
            due("WINS, by call 510", x.club(0, 2), 30300);
            due("WON, by call 511", x.driver(0, 4), 30300);
            due("STRENGTH, by call 512", x.strength(0), 10 + 30300 % 8 / 3);
        });
        edge(0, "Curses go on", () -> {
            BluesAndGreens x = city("50b;10g", "", "");
            x.curse(1, 0);
            x.race(60);
            due("CURSED behind 60 RACES", x.driver(0, 3), 1);
            x.buy(1, 0);
            due("CURSED when bought", x.driver(0, 3), 1);
        });
    }

    private static void eight() {
        edge(0, "DRIVERS at most 8, QUARRELS at most 8: each has what is its own", () -> {
            BluesAndGreens x = city("10b;20g;30b;40g;50b;60g;70b;80g", "", times("0000;", 7) + "0000");
            x.curse(1, 0);
            x.curse(1, 6);
            x.curse(0, 7);
            for (int i = 0; i < 8; i++) {
                rule(x, "i=" + i);
                x.race(i + 1);
                if (i % 3 > 0) {
                    x.show(i, i % 3 - 1);
                }
            }
            int[] sides = {NONE, 0, 1, NONE, 0, 1, NONE, 0};
            for (int i = 0; i < 8; i++) {
                due("SKILL of DRIVER " + i, x.driver(i, 0), i + 1);
                due("the CLUB of DRIVER " + i, x.driver(i, 2), i % 2);
                due("DRIVER " + i + " is CURSED", x.driver(i, 3), i == 0 || i > 5 ? 1 : 0);
                due("WON of DRIVER " + i, x.driver(i, 4), i + 1);
                due("the side of QUARREL " + i, x.quarrel(i, 4), sides[i]);
            }
            due("WINS of blue", x.club(0, 2), 1 + 3 + 5 + 7);
            due("WINS of green", x.club(1, 2), 2 + 4 + 6 + 8);
            due("RACE", x.count(4), 36);
        });
        edge(0, "QUARTERS at most 8: each has what is its own", () -> {
            BluesAndGreens x = city("", "1b0a;2g1b;3b2c;4g3d;5b4e;6g5f;7b6g;8g7h", "");
            for (int i = 0; i < 8; i++) {
                int[] due = {i + 1, i % 2, i, 1 << i};
                for (int what = 0; what < 4; what++) {
                    due("quarter(" + i + ", " + what + ")", x.quarter(i, what), due[what]);
                }
            }
        });
    }

    private static void rows() {
        edge(0, "ROW: numbers told last by a call that says so", () -> {
            BluesAndGreens x = rich();
            due("numbers", x.count(10), 3);
            x.limit(9);
            x.sheet(2, 3, 10, 0);
            x.buy(1, 0);
            x.curse(1, 1);
            x.dig(1);
            x.grain(0, 2);
            x.show(0, 1);
            x.undo();
            x.heard(0, 1);
            x.forget();
            x.keep(1);
            x.again(1);
            x.rule();
            x.drivers();
            x.quarters();
            x.quarrels();
            x.count(5);
            x.club(0, 0);
            due("numbers behind calls that say nothing of it", x.count(10), 3);
            x.rests(0, 0);
            row("rests()", x, 0, 0);
            x.spark();
            due("numbers of a shorter one", x.count(10), 1);
            x.ahead(0);
            row("a longer one", x, 0, 0, 0);
        });
        edge(0, "Refused calls change nothing but THE TEXT, which a call that reads it empties", () -> {
            for (int i = 0; i < 6; i++) {
                BluesAndGreens x = rich();
                due("a text of which nothing can stand", told(x, "?", readers().get(i)), i == 5 ? -10000 : -1);
                due("signs of THE TEXT", x.count(11), 0);
                BluesAndGreens twin = rich();
                twin.end(0);
                same("reader " + i, x, twin);
            }
        });
        edge(0, "THE TEXT is emptied as well by a call that is not refused", () -> {
            String[] texts = {"11b", "1b1", "1111", "1", "r1", "1"};
            for (int i = 0; i < 6; i++) {
                BluesAndGreens x = rich();
                due("a text that can stand", told(x, texts[i], readers().get(i)) >= (i == 5 ? -20 : 0), true);
                due("signs of THE TEXT", x.count(11), 0);
                due("sign()", x.sign(0), 4);
            }
        });
    }

    private static List<ToLongFunction<BluesAndGreens>> readers() {
        return List.of(DRIVERS, QUARTERS, QUARRELS, RULE, BluesAndGreens::season, BluesAndGreens::law);
    }

    private static void question(String what, ToLongFunction<BluesAndGreens> asked) {
        BluesAndGreens x = rich();
        asked.applyAsLong(x);
        x.order();
        same(what, x, rich());
    }

    private static void questions() {
        edge(0, "Questions change nothing (but the ROW)", () -> {
            question("strength()", x -> x.strength(0));
            question("ahead()", x -> x.ahead(99));
            question("joins()", BluesAndGreens::joins);
            question("bribe()", x -> x.bribe(0) + x.bribe(1));
            question("lead()", x -> x.lead(0) + x.lead(1));
            question("stable()", x -> x.stable(0) + x.stable(1));
            question("apart()", BluesAndGreens::apart);
            question("calm()", BluesAndGreens::calm);
            question("risky()", BluesAndGreens::risky);
            question("worst()", BluesAndGreens::worst);
            question("riots()", x -> x.riots(15));
            question("spark()", BluesAndGreens::spark);
            question("won()", x -> x.won(15, 1));
            question("gates()", x -> x.gates(15, 9));
            question("common()", x -> x.common(15));
            question("lots()", x -> x.lots(12, 6, 5));
            question("bent()", x -> x.bent(5, 5, 10, 5));
            question("fits()", BluesAndGreens::fits);
            question("ask()", BluesAndGreens::ask);
            question("rests()", x -> x.rests(9, 9));
            question("years()", x -> x.years(7, 60));
            BluesAndGreens x = rich();
            law(x, "i");
            x.order();
            BluesAndGreens twin = rich();
            twin.end(0);
            same("law()", x, twin);
        });
    }

    // ---- a new object, THE TEXT

    private static void newObject() {
        edge(1, "Two CLUBS; no DRIVERS, no QUARTERS, no QUARRELS", () -> {
            BluesAndGreens x = new BluesAndGreens();
            for (int i = 0; i < 12; i++) {
                due("count(" + i + ")", x.count(i), i == 3 ? 20 : 0);
                due("club(" + i / 6 + ", " + i % 6 + ")", x.club(i / 6, i % 6), i % 6 == 0 ? 100 : 0);
            }
            throwing("driver(0, 0)", BluesAndGreens::new, y -> y.driver(0, 0));
            throwing("strength(0)", BluesAndGreens::new, y -> y.strength(0));
            throwing("quarter(0, 0)", BluesAndGreens::new, y -> y.quarter(0, 0));
            throwing("quarrel(0, 0)", BluesAndGreens::new, y -> y.quarrel(0, 0));
            throwing("row(0)", BluesAndGreens::new, y -> y.row(0));
        });
        edge(1, "nothing is kept, nothing can be undone, nothing was heard", () -> {
            refused("undo()", BluesAndGreens::new, BluesAndGreens::undo, NONE);
            refused("again(0)", BluesAndGreens::new, x -> x.again(0) ? 1 : 0, 0);
            refused("again(1)", BluesAndGreens::new, x -> x.again(1) ? 1 : 0, 0);
            due("forget()", new BluesAndGreens().forget(), 0);
        });
        edge(1, "objects have nothing in common", () -> {
            BluesAndGreens x = rich();
            BluesAndGreens y = new BluesAndGreens();
            x.race(1);
            same("another object", y, new BluesAndGreens());
        });
    }

    private static void text() {
        edge(2, "Four signs come behind THE TEXT: how many it has", () -> {
            BluesAndGreens x = new BluesAndGreens();
            for (int i = 1; i <= 20; i++) {
                due("sign() " + i, x.sign(i), 4 * i);
            }
        });
        edge(2, "Refused: there would be more than 80", () -> {
            for (int length = 75; length <= 80; length++) {
                String text = "11b" + times("x", length - 3);
                if (length <= 76) {
                    BluesAndGreens x = rich();
                    tell(x, text);
                    due("sign() to " + (length + 4), x.sign(0), length + 4);
                    due("signs", x.count(11), length + 4);
                } else {
                    refused("sign() to " + (length + 4), () -> richWith(text), x -> x.sign(0), NONE);
                }
            }
        });
        edge(2, "of v the highest byte first", () -> {
            BluesAndGreens x = new BluesAndGreens();
            x.sign('1' << 24 | '2' << 16 | '3' << 8 | 'g');
            due("drivers()", x.drivers(), 1);
            due("SKILL", x.driver(0, 0), 1);
            due("PRICE", x.driver(0, 1), 23);
            due("the CLUB", x.driver(0, 2), 1);
        });
        edge(2, "signs are bytes: 0, and 128 .. 255, are none of 1 .. 127", () -> {
            char[] strange = {0, 128, (char) ('1' + 128), 255};
            for (char sign : strange) {
                wrongAt(Edges::rich, DRIVERS, sign + "1b", 0);
                wrongAt(Edges::rich, DRIVERS, "11" + sign, 2);
                wrongAt(Edges::rich, RULE, "s" + sign, 1);
                wrongAt(Edges::rich, BluesAndGreens::season, "r1" + sign, 2);
            }
        });
        edge(3, "THE TEXT has its first n signs alone: true", () -> {
            BluesAndGreens x = new BluesAndGreens();
            tell(x, "12g;34b5");
            due("end(8), all of it", x.end(8), true);
            due("signs", x.count(11), 8);
            due("end(7)", x.end(7), true);
            due("signs", x.count(11), 7);
            due("the first signs are left", x.drivers(), 2);
            due("end(0) of nothing", x.end(0), true);
            x.sign(-1);
            due("end(0)", x.end(0), true);
            due("signs", x.count(11), 0);
            due("what is cut is gone", x.sign('1' << 24 | '1' << 16 | 'b' << 8 | ';'), 4);
        });
        edge(3, "false if it has not so many, or n is below 0", () -> {
            refused("end(4) of three", x -> x.end(4) ? 1 : 0, 0);
            refused("end(80)", x -> x.end(80) ? 1 : 0, 0);
            refused("end(MAX)", x -> x.end(MAX) ? 1 : 0, 0);
            refused("end(-1)", x -> x.end(-1) ? 1 : 0, 0);
            refused("end(MIN)", x -> x.end(MIN) ? 1 : 0, 0);
            refused("end(1) of nothing", BluesAndGreens::new, x -> x.end(1) ? 1 : 0, 0);
            refused("end(81) of 80", () -> richWith(times("x", 80)), x -> x.end(81) ? 1 : 0, 0);
            due("end(80) of 80", richWith(times("x", 80)).end(80), true);
        });
    }

    private static BluesAndGreens richWith(String text) {
        BluesAndGreens x = rich();
        tell(x, text);
        return x;
    }

    // ---- DRIVERS

    private static void drivers() {
        edge(4, "an empty one: nothing", () -> {
            BluesAndGreens x = rich();
            due("drivers()", told(x, "", DRIVERS), 0);
            BluesAndGreens twin = rich();
            twin.end(0);
            same("drivers()", x, twin);
            due("with no room", told(city(times("11b;", 7) + "11b", "", ""), "", DRIVERS), 0);
        });
        edge(4, "a digit (SKILL 1 .. 9, not 0)", () -> {
            for (int skill = 1; skill <= 9; skill++) {
                due("SKILL " + skill, city(skill + "5b", "", "").driver(0, 0), skill);
            }
            wrongAll(Edges::rich, DRIVERS, "05b", 0, ":5b", 0, "/5b", 0, "b", 0, "11b;05b", 4, ";11b", 0, " 11b", 0);
        });
        edge(4, "a number (PRICE 0 .. 99; 1 or 2 digits)", () -> {
            String[] prices = {"0", "1", "9", "00", "01", "09", "10", "99"};
            int[] due = {0, 1, 9, 0, 1, 9, 10, 99};
            for (int i = 0; i < prices.length; i++) {
                due("PRICE " + prices[i], city("5" + prices[i] + "g", "", "").driver(0, 1), due[i]);
            }
            wrongAll(Edges::rich, DRIVERS, "5b", 1, "5/b", 1, "5:b", 1, "5-1b", 1, "5100b", 3, "5000b", 3, "51/b", 2, "51:b", 2);
        });
        edge(4, "b or g (CLUB)", () -> {
            due("b", city("10b", "", "").driver(0, 2), 0);
            due("g", city("10g", "", "").driver(0, 2), 1);
            for (String other : new String[] {"a", "c", "f", "h", "B", "G", ";", " "}) {
                wrongAt(Edges::rich, DRIVERS, "10" + other, 2);
                wrongAt(Edges::rich, DRIVERS, "123" + other, 3);
            }
        });
        edge(4, "LINES with ; between", () -> {
            due("three", told(new BluesAndGreens(), "10b;222g;33b", DRIVERS), 3);
            wrongAll(Edges::rich, DRIVERS, "10b10b", 3, "10b,10b", 3, "10b:10b", 3, "10b;;10b", 4, "10b; 10b", 4, "10bg", 3);
        });
        edge(4, "its end, if it ends too early", () ->
            wrongAll(Edges::rich, DRIVERS, "1", 1, "11", 2, "111", 3, "11b;", 4, "11b;1", 5, "11b;11", 6, "11b;111", 7));
        edge(4, "48, if it has more: of eight LINES at most 39 signs can stand", () -> {
            String eight = times("999g;", 7) + "999b";
            due("39 signs", told(new BluesAndGreens(), eight, DRIVERS), 8);
            wrongAll(BluesAndGreens::new, DRIVERS, eight + ";", 40, eight + ";999b;999", 40, eight + ";999b;999b", 40,
                eight + ";" + times("9", 40), 40, eight + times("x", 41), 39, times("x", 80), 0);
        });
        edge(4, "the first sign of a LINE for which there is no room", () -> {
            String seven = times("11b;", 6) + "11b";
            due("room for one", told(city(seven, "", ""), "12g", DRIVERS), 1);
            wrongAll(() -> city(seven, "", ""), DRIVERS, "11b;11b", 4, "199g;11b", 5, "11b;x", 4, "11b;1xb", 4, "11b;", 4, "x", 0, "11bx", 3);
            wrongAll(() -> city(seven + ";11b", "", ""), DRIVERS, "11b", 0, "x", 0, ";", 0, "1", 0);
            wrongAll(BluesAndGreens::new, DRIVERS, seven + ";11b;11b", 32, seven + ";11b;", 32);
            due("eight at once", told(new BluesAndGreens(), seven + ";11b", DRIVERS), 8);
        });
        edge(4, "Nothing of it comes, if a LINE can't", () -> {
            BluesAndGreens x = rich();
            due("the third LINE can't", told(x, "11b;22g;3x", DRIVERS), -10);
            due("DRIVERS", x.count(0), 3);
            due("DRIVERS of green", x.club(1, 3), 4);
            due("one that comes then", told(x, "98g", DRIVERS), 1);
            due("its SKILL", x.driver(3, 0), 9);
            due("its PRICE", x.driver(3, 1), 8);
            due("its CLUB", x.driver(3, 2), 1);
        });
        edge(4, "each one more: not CURSED, WON at first 0, behind those there are", () -> {
            BluesAndGreens x = city("50b", "", "");
            x.curse(1, 0);
            x.race(9);
            due("two more", told(x, "60g;70b", DRIVERS), 2);
            int[][] all = {{5, 0, 0, 1, 9}, {6, 0, 1, 0, 0}, {7, 0, 0, 0, 0}};
            for (int i = 0; i < 15; i++) {
                due("driver(" + i / 5 + ", " + i % 5 + ")", x.driver(i / 5, i % 5), all[i / 5][i % 5]);
            }
            due("RACE goes on", x.count(4), 9);
            due("MONEY of blue goes on", x.club(0, 0), 190);
        });
    }

    // ---- QUARTERS

    private static void quarters() {
        edge(5, "an empty one: nothing", () -> {
            BluesAndGreens x = rich();
            due("quarters()", told(x, "", QUARTERS), 0);
            BluesAndGreens twin = rich();
            twin.end(0);
            same("quarters()", x, twin);
            due("with no room", told(city("", times("1b1;", 7) + "1b1", ""), "", QUARTERS), 0);
        });
        edge(5, "a number (CROWD 1 .. 99; 1 or 2 digits, not 0)", () -> {
            String[] crowds = {"1", "9", "01", "09", "10", "90", "99"};
            int[] due = {1, 9, 1, 9, 10, 90, 99};
            for (int i = 0; i < crowds.length; i++) {
                due("CROWD " + crowds[i], city("", crowds[i] + "b0", "").quarter(0, 0), due[i]);
            }
            wrongAll(Edges::rich, QUARTERS, "b0", 0, "/b0", 0, ":b0", 0, "100b0", 2, "001b0", 1, "1/b0", 1, "1:b0", 1);
        });
        edge(5, "CROWD 0: at its last digit", () ->
            wrongAll(Edges::rich, QUARTERS, "0b0", 0, "00b0", 1, "0g", 0, "00g", 1, "0", 0, "00", 1, "0x", 0, "00x", 1, "0;", 0,
                "1b0;0b0", 4, "1b0;00b0", 5, "000b0", 1));
        edge(5, "b or g (a CLUB)", () -> {
            due("b", city("", "1b0", "").quarter(0, 1), 0);
            due("g", city("", "1g0", "").quarter(0, 1), 1);
            wrongAll(Edges::rich, QUARTERS, "1a0", 1, "1c0", 1, "1f0", 1, "1h0", 1, "1B0", 1, "1G0", 1, "10a0", 2, "1;", 1);
        });
        edge(5, "a digit (NEED 0 .. 9)", () -> {
            for (int need = 0; need < 10; need++) {
                due("NEED " + need, city("", "1b" + need, "").quarter(0, 2), need);
            }
            wrongAll(Edges::rich, QUARTERS, "1b/", 2, "1b:", 2, "1ba", 2, "1b;", 2, "1b10", 3, "1b00", 3);
        });
        edge(5, "letters of GATES (a .. i, rising, perhaps none)", () -> {
            String[] gates = {"", "a", "i", "ai", "abcdefghi", "bdfh", "hi"};
            int[] bits = {0, 1, 256, 257, 511, 170, 384};
            for (int i = 0; i < gates.length; i++) {
                due("GATES " + gates[i], city("", "1b0" + gates[i], "").quarter(0, 3), bits[i]);
            }
            wrongAll(Edges::rich, QUARTERS, "1b0`", 3, "1b0j", 3, "1b0A", 3, "1b0aj", 4, "1b0abcdefghij", 12, "1b0i;1b0`", 8);
        });
        edge(5, "a letter that is no more than the one ahead: at it", () ->
            wrongAll(Edges::rich, QUARTERS, "1b0aa", 4, "1b0ba", 4, "1b0ii", 4, "1b0ia", 4, "1b0abb", 5, "1b0abcdefghii", 12,
                "1b0;1b0cb", 8));
        edge(5, "its end, if it ends too early", () ->
            wrongAll(Edges::rich, QUARTERS, "1", 1, "11", 2, "1b", 2, "11b", 3, "1b0;", 4, "1b0abc;", 7, "1b0;1", 5, "1b0;1g", 6));
        edge(5, "76 signs can stand, not 77", () -> {
            String five = times(FULL_QUARTER, 5);
            BluesAndGreens x = new BluesAndGreens();
            due("76 signs", told(x, five + "99g9gi", QUARTERS), 6);
            due("GATES of the last", x.quarter(5, 3), 320);
            due("75 signs", told(new BluesAndGreens(), five + "99g9g", QUARTERS), 6);
            wrongAll(BluesAndGreens::new, QUARTERS, five + "99g9ghi", 76, five + "99g9gh;", 76, five + "99g9gh;1b0", 76);
        });
        edge(5, "76, if it has more and the first 76 could go on or end", () -> {
            String five = times(FULL_QUARTER, 5);
            wrongAll(BluesAndGreens::new, QUARTERS, five + "99g9ghxxxx", 76, five + "99g9gha", 76, five + "99g9g;1", 76,
                five + "99g9;11", 76, five + "9g9;1b", 76, five + "9g9;1b0", 76, five + "9g9ab;", 76, five + "9g9ab;x", 76);
        });
        edge(5, "ahead of 76 the first sign that can't stand is told, also if it has more", () -> {
            String five = times(FULL_QUARTER, 5);
            wrongAll(BluesAndGreens::new, QUARTERS, five + "99g9gg;", 75, five + "99g9gx;;", 75, five + "99x9gi9", 72, five + "9g9;00b0", 75,
                five + "9g9;0b00", 74, "x" + five, 0, five + "99g9;", 75, five + "99g9g;", 76, five + "9g9;9b", 76, five + "9g9a;0", 75, five + "9g9;00", 75);
        });
        edge(5, "CROWD 0: at its last digit, also if that is the last of the first 76", () -> {
            String five = times(FULL_QUARTER, 5);
            wrongAll(BluesAndGreens::new, QUARTERS, five + "9g9a;0", 75, five + "9g9a;0b1", 75, five + "9g9a;01b1", 75, five + "9g9a;00b1", 75,
                five + "9g9;00b1", 75, five + "9g9;01b1", 76, five + "9g9;1b01", 76);
        });
        edge(5, "the first sign of a LINE for which there is no room", () -> {
            String seven = times("1b1;", 6) + "1b1";
            due("room for one", told(city("", seven, ""), "2g2abc", QUARTERS), 1);
            wrongAll(() -> city("", seven, ""), QUARTERS, "1b1;1b1", 4, "10b1ab;1b1", 7, "1b1;0", 4, "1b1;x", 4, "1b1;", 4, "0", 0);
            wrongAll(() -> city("", seven + ";1b1", ""), QUARTERS, "1b1", 0, "x", 0, "0b0", 0);
            wrongAll(BluesAndGreens::new, QUARTERS, seven + ";1b1;1b1", 32, seven + ";1b1;00b0", 32);
            due("eight at once", told(new BluesAndGreens(), seven + ";1b1", QUARTERS), 8);
        });
        edge(5, "Nothing of it comes, if a LINE can't", () -> {
            BluesAndGreens x = rich();
            due("the second LINE can't", told(x, "99b9abc;1b", QUARTERS), -11);
            due("QUARTERS", x.count(1), 4);
            due("CROWDS of blue", x.club(0, 5), 39);
            due("one that comes then", told(x, "5g1", QUARTERS), 1);
            due("its CROWD", x.quarter(4, 0), 5);
            due("its NEED", x.quarter(4, 2), 1);
            due("its GATES", x.quarter(4, 3), 0);
        });
    }

    // ---- QUARRELS

    private static void quarrels() {
        edge(6, "an empty one: nothing", () -> {
            BluesAndGreens x = rich();
            due("quarrels()", told(x, "", QUARRELS), 0);
            BluesAndGreens twin = rich();
            twin.end(0);
            same("quarrels()", x, twin);
            due("with no room", told(city("", "", times("1111;", 7) + "1111"), "", QUARRELS), 0);
        });
        edge(6, "four digits", () -> {
            BluesAndGreens x = city("", "", "0123;4567;8900");
            for (int i = 0; i < 10; i++) {
                due("quarrel(" + i / 4 + ", " + i % 4 + ")", x.quarrel(i / 4, i % 4), i);
            }
            wrongAll(Edges::rich, QUARRELS, "/111", 0, ":111", 0, "1/11", 1, "1:11", 1, "11/1", 2, "11:1", 2, "111/", 3, "111:", 3,
                "11111", 4, "1111;11111", 9, "-111", 0, "11;11", 2);
        });
        edge(6, "LINES with ; between; its end, if it ends too early", () ->
            wrongAll(Edges::rich, QUARRELS, "1", 1, "11", 2, "111", 3, "1111;", 5, "1111;1", 6, "1111;11", 7, "1111;111", 8,
                "1111;;", 5, ";", 0, "1111:1111", 4, "11111111", 4));
        edge(6, "44 signs: of eight LINES 39 can stand", () -> {
            String eight = times("9876;", 7) + "9876";
            due("39 signs", told(new BluesAndGreens(), eight, QUARRELS), 8);
            wrongAll(BluesAndGreens::new, QUARRELS, eight + ";", 40, eight + ";1111", 40, eight + ";11111", 40, eight + times(";", 6), 40,
                eight + times("1", 41), 39, eight + ";" + times("1", 40), 40, times("1", 80), 4);
        });
        edge(6, "the first sign of a LINE for which there is no room", () -> {
            String seven = times("1111;", 6) + "1111";
            due("room for one", told(city("", "", seven), "2222", QUARRELS), 1);
            wrongAll(() -> city("", "", seven), QUARRELS, "1111;1111", 5, "1111;x", 5, "1111;11x1", 5, "1111;", 5, "111x", 3);
            wrongAll(() -> city("", "", seven + ";1111"), QUARRELS, "1111", 0, "x", 0, "1", 0);
            due("eight at once", told(new BluesAndGreens(), seven + ";1111", QUARRELS), 8);
        });
        edge(6, "Nothing of it comes, if a LINE can't; none yet is shown of new ones", () -> {
            BluesAndGreens x = rich();
            due("the second LINE can't", told(x, "9999;999x", QUARRELS), -9);
            due("QUARRELS", x.count(2), 2);
            due("one that comes then", told(x, "1234", QUARRELS), 1);
            due("to blue by side 0", x.quarrel(2, 0), 1);
            due("the side", x.quarrel(2, 4), NONE);
            due("sides of others go on", x.quarrel(1, 4), 0);
            due("QUARRELS shown", x.count(7), 2);
        });
    }

    // ---- THE RULE

    private static BluesAndGreens ruled() {
        BluesAndGreens x = rich();
        rule(x, "s*7");
        tell(x, "55b");
        return x;
    }

    private static void rule() {
        edge(7, "an empty one: none", () -> {
            BluesAndGreens x = ruled();
            due("rule() of nothing", rule(x, ""), 0);
            // CURSED, behind two RACES
            due("STRENGTH of DRIVER 0", x.strength(0), 50 - 15);
            due("STRENGTH of DRIVER 1", x.strength(1), 30 + 1);
            due("STRENGTH of DRIVER 2", x.strength(2), 70 + 1);
            due("what can be undone goes on", x.count(9), 4);
            due("what is kept goes on", x.again(0), true);
        });
        edge(7, "at first none", () -> {
            BluesAndGreens x = city("520b;330g;725g", "", "");
            x.curse(0, 2);
            x.race(5);
            int[] due = {50 + 1, 30 + 2, 70 - 15 + 2};
            for (int i = 0; i < 3; i++) {
                due("STRENGTH of DRIVER " + i, x.strength(i), due[i]);
            }
        });
        edge(7, "40 signs can stand, not 41", () -> {
            BluesAndGreens x = ruled();
            due("40 signs", rule(x, times("1+", 18) + "1*99"), 0);
            due("STRENGTH", x.strength(0), 18 + 99);
            due("39 signs", rule(x, times("1+", 19) + "1"), 0);
            due("STRENGTH", x.strength(0), 20);
            due("40 signs, which go one behind another", rule(x, times("-", 39) + "2"), 0);
            due("STRENGTH", x.strength(0), -2);
            wrongAll(TextEdgeTests::ruled, RULE, times("1+", 18) + "1*999", 40, times("-", 40) + "2", 40, times("1+", 20) + "1", 40);
        });
        edge(7, "40, if it has more and the first 40 could go on or end", () ->
            wrongAll(TextEdgeTests::ruled, RULE, times("1+", 19) + "1+x", 40, times("1+", 19) + "(s)", 40, times("1+", 18) + "(((()", 40,
                times("1+", 19) + "12x", 40, times("1+", 19) + "1)", 39, times("1+", 19) + "1x", 39, times("1+", 19) + "11<", 40,
                times("1+", 20) + times("?", 40), 40, times("1+", 18) + "1<2<3", 39, times("1+", 18) + "1<22<3", 40));
        edge(7, "its end, if it ends too early", () ->
            wrongAll(TextEdgeTests::ruled, RULE, "s+", 2, "s-", 2, "s*", 2, "s/", 2, "s<", 2, "s>", 2, "s=", 2, "-", 1, "--", 2, "(", 1,
                "(s", 2, "((s)", 4, "(s+", 3, times("1+", 20), 40, times("(1)+", 9) + "(111", 40));
        edge(7, "< > = not one behind the other", () -> {
            wrongAll(TextEdgeTests::ruled, RULE, "s<c<i", 3, "s<c>i", 3, "s<c=i", 3, "s>c<i", 3, "s=c=i", 3, "1+s<c*2+3<i", 9, "(s<c<i)", 4,
                "s<(c<i)<1", 7, "s<<c", 2, "s==c", 2, "<s", 0, "(s<c)+1<2>3", 9);
            BluesAndGreens x = ruled();
            String[] rules = {"(1<2)<2", "1<(2<3)", "(1<2)=(2>1)", "(1=1)<(2=2)", "1<((2<3)+(3<4))"};
            int[] due = {1, 0, 1, 0, 1};
            for (int i = 0; i < rules.length; i++) {
                due("rule() of " + rules[i], rule(x, rules[i]), 0);
                due("STRENGTH by " + rules[i], x.strength(0), due[i]);
            }
        });
        edge(7, "a NUMBER of 1 to 3 digits", () -> {
            BluesAndGreens x = ruled();
            String[] rules = {"0", "9", "99", "999", "000", "007", "010"};
            int[] due = {0, 9, 99, 999, 0, 7, 10};
            for (int i = 0; i < rules.length; i++) {
                due("rule() of " + rules[i], rule(x, rules[i]), 0);
                due("STRENGTH by " + rules[i], x.strength(0), due[i]);
            }
            wrongAll(TextEdgeTests::ruled, RULE, "1000", 3, "0000", 3, "1+9999", 5, "12 3", 2, "1s", 1, "1(2)", 1, "/", 0, ":", 0);
        });
        edge(7, "an EXPRESSION in ( ) (at most 4 in one another)", () -> {
            BluesAndGreens x = ruled();
            due("four in one another", rule(x, "((((s))))"), 0);
            due("STRENGTH", x.strength(0), 5);
            due("four in one another, twice", rule(x, "((((s))))*((((s))))-(((1+(s))))"), 0);
            due("STRENGTH", x.strength(0), 19);
            wrongAll(TextEdgeTests::ruled, RULE, "(((((s)))))", 4, "1+((((1+(s)))))", 8, "-(-(-(-(-(s)))))", 9, "((((s))))(", 9, "((((s)))))", 9,
                "()", 1, "(s)(s)", 3, ")", 0, "s)", 1, "(s))", 3, "(-)", 2, "(s+)", 3);
        });
        edge(7, "- ahead of a thing (any many)", () -> {
            BluesAndGreens x = ruled();
            String[] rules = {"-s", "--s", "---s", "2--3", "2---3", "-(s)", "-(-(-s))", "2*-3", "7/-2", "-7/2", "-s*-s", "1<-1", "-1<1", "5--s*2"};
            int[] due = {-5, 5, -5, 5, -1, -5, -5, -6, -3, -3, 25, 0, 1, 15};
            for (int i = 0; i < rules.length; i++) {
                due("rule() of " + rules[i], rule(x, rules[i]), 0);
                due("STRENGTH by " + rules[i], x.strength(0), due[i]);
            }
            wrongAll(TextEdgeTests::ruled, RULE, "+s", 0, "*s", 0, "/s", 0, "2*+3", 2, "-+s", 1, "s-*c", 2);
        });
        edge(7, "what can't stand leaves nothing for the next one", () -> {
            BluesAndGreens x = ruled();
            String[] wrong = {"((((s", "s<", "--(", "2*(3-", "s=c=", "1-(2*("};
            int[] places = {5, 2, 3, 5, 3, 6};
            for (int i = 0; i < wrong.length; i++) {
                due("rule() of " + wrong[i], rule(x, wrong[i]), -1 - places[i]);
                due("STRENGTH by THE RULE that was", x.strength(0), i == 0 ? 35 : 4);
                due("rule() with four in one another", rule(x, "((((s))))-(1<2)"), 0);
                due("STRENGTH", x.strength(0), 4);
                due("rule() of one behind another", rule(x, "(s)<(s-1)"), 0);
                due("STRENGTH", x.strength(0), 0);
                due("rule()", rule(x, "s-1"), 0);
            }
        });
        edge(7, "things are s c i w n o m a, no others", () -> {
            BluesAndGreens x = ruled();
            for (char thing = 'a'; thing <= 'z'; thing++) {
                boolean is = "sciwnoma".indexOf(thing) >= 0;
                due("rule() of " + thing, rule(x, "" + thing), is ? 0 : -1);
                due("rule() of " + (char) (thing - 32), rule(x, "" + (char) (thing - 32)), -1);
            }
            wrongAll(TextEdgeTests::ruled, RULE, "ss", 1, "s c", 1, " s", 0, "s;", 1, "s%2", 1);
        });
    }

    private static int by(BluesAndGreens x, String rule, int driver) {
        due("rule() of " + rule, rule(x, rule), 0);
        return x.strength(driver);
    }

    private static void strength() {
        edge(9, "/ by 0: 0; cut to 0", () -> {
            BluesAndGreens x = city("50b", "", "");
            String[] rules = {"5/0", "0/0", "-5/0", "5/(s-5)", "1/2", "-1/2", "7/2", "-7/2", "7/-2", "-7/-2", "9/3", "1/0+3", "5/0*9", "5/0/0", "6/4*4"};
            int[] due = {0, 0, 0, 0, 0, 0, 3, -3, -3, 3, 3, 3, 0, 0, 4};
            for (int i = 0; i < rules.length; i++) {
                due("STRENGTH by " + rules[i], by(x, rules[i], 0), due[i]);
            }
        });
        edge(9, "+ - and * / from the left", () -> {
            BluesAndGreens x = city("50b", "", "");
            String[] rules = {"9-3-2", "9-(3-2)", "9-3+2", "8/4/2", "8/(4/2)", "8/4*2", "7*3/2", "3/2*7", "2+3*4-1", "1+1<2+1", "2*3=3+3", "1-1>0-1"};
            int[] due = {4, 8, 8, 1, 4, 4, 10, 7, 13, 1, 1, 1};
            for (int i = 0; i < rules.length; i++) {
                due("STRENGTH by " + rules[i], by(x, rules[i], 0), due[i]);
            }
        });
        edge(9, "< > = (1 or 0)", () -> {
            BluesAndGreens x = city("50b", "", "");
            String[] rules = {"4<5", "5<5", "6<5", "4>5", "5>5", "6>5", "4=5", "5=5", "6=5", "-1<0", "0>-1",
                "512*512*512*16<1", "512*512*512*16-1>-1", "512*512*512*16=0"};
            int[] due = {1, 0, 0, 0, 0, 1, 0, 1, 0, 1, 1, 1, 1, 0};
            for (int i = 0; i < rules.length; i++) {
                due("STRENGTH by " + rules[i], by(x, rules[i], 0), due[i]);
            }
        });
        edge(9, "As ints: they go round", () -> {
            BluesAndGreens x = city("50b", "", "");
            due("the least", by(x, "512*512*512*16", 0), MIN);
            due("1 less", by(x, "512*512*512*16-1", 0), MAX);
            due("the other way", by(x, "-(512*512*512*16)", 0), MIN);
            due("by -1", by(x, "512*512*512*16/-1", 0), MIN);
            due("times", by(x, "999*999*999*999", 0), (int) 996005996001L);
        });
        edge(9, "m MONEY of its CLUB by 10, a ANGER of its CLUB, w WON: at their least and most", () -> {
            BluesAndGreens x = city("11b;190g", "", "0010");
            due("m of 100", by(x, "m", 0), 10);
            x.buy(1, 0);
            due("m of 99, who was bought", x.strength(0), 9);
            x.sheet(2, 1, 99, 0);
            x.buy(0, 1);
            x.buy(1, 0);
            due("m of 101", x.strength(1), 10);
            x.sheet(2, 2, 9, 0);
            due("a of 0", by(x, "a", 0), 0);
            x.show(0, 0);
            due("a of 1", x.strength(0), 1);
            due("a of 0", x.strength(1), 0);
            rule(x, "1-i");
            races(x, 1000);
            due("w of 1000", by(x, "w", 0), 1000);
            due("w of 0", x.strength(1), 0);
            due("m of 9999", by(x, "m", 0), 999);
            due("a of 999", by(x, "a", 1), 999);
            due("a of 0", x.strength(0), 0);
            due("n of 1000", by(x, "n", 0), 0);
        });
        edge(9, "s SKILL, c 1 if CURSED, i its number, o its CLUB: at their least and most", () -> {
            BluesAndGreens x = city("10b;20b;30b;40b;50b;60b;70b;90g", "", "");
            x.curse(0, 7);
            String[] rules = {"s", "c", "i", "o"};
            int[][] due = {{1, 9}, {0, 1}, {0, 7}, {0, 1}};
            for (int i = 0; i < 4; i++) {
                due("the first by " + rules[i], by(x, rules[i], 0), due[i][0]);
                due("the last by " + rules[i], by(x, rules[i], 7), due[i][1]);
            }
            x.buy(0, 7);
            due("o of one who was bought", by(x, "o", 7), 0);
        });
        edge(9, "NoSuchElementException: none such", () -> {
            due("strength(2)", rich().strength(2), 65);
            for (int driver : new int[] {3, 8, -1, MAX, MIN}) {
                throwing("strength(" + driver + ")", Edges::rich, x -> x.strength(driver));
            }
        });
    }

    // ---- what is asked of one

    private static void asked() {
        edge(8, "of a DRIVER, what 0 .. 4", () -> {
            int[][] due = {{5, 20, 0, 1, 0}, {3, 30, 0, 0, 0}, {7, 25, 1, 0, 2}};
            BluesAndGreens x = rich();
            for (int i = 0; i < 15; i++) {
                due("driver(" + i / 5 + ", " + i % 5 + ")", x.driver(i / 5, i % 5), due[i / 5][i % 5]);
            }
        });
        edge(8, "NoSuchElementException: none such, another what", () -> {
            int[][] others = {{3, 0}, {-1, 0}, {8, 0}, {MAX, 0}, {MIN, 0}, {0, 5}, {0, -1}, {2, 5}, {0, MAX}, {0, MIN}, {3, 5}};
            for (int[] o : others) {
                throwing("driver(" + o[0] + ", " + o[1] + ")", Edges::rich, x -> x.driver(o[0], o[1]));
            }
        });
        edge(10, "of a QUARTER, what 0 .. 3", () -> {
            int[][] due = {{30, 0, 0, 3}, {20, 1, 1, 6}, {9, 0, 2, 4}, {50, 1, 3, 0}};
            BluesAndGreens x = rich();
            for (int i = 0; i < 16; i++) {
                due("quarter(" + i / 4 + ", " + i % 4 + ")", x.quarter(i / 4, i % 4), due[i / 4][i % 4]);
            }
        });
        edge(10, "NoSuchElementException: none such, another what", () -> {
            int[][] others = {{4, 0}, {-1, 0}, {8, 0}, {MAX, 0}, {MIN, 0}, {0, 4}, {0, -1}, {3, 4}, {0, MAX}, {0, MIN}};
            for (int[] o : others) {
                throwing("quarter(" + o[0] + ", " + o[1] + ")", Edges::rich, x -> x.quarter(o[0], o[1]));
            }
        });
        edge(11, "of a QUARREL, what 0 .. 4: the side that was shown (NONE)", () -> {
            int[][] due = {{5, 1, 6, 3, NONE}, {0, 9, 4, 0, 0}};
            BluesAndGreens x = rich();
            for (int i = 0; i < 10; i++) {
                due("quarrel(" + i / 5 + ", " + i % 5 + ")", x.quarrel(i / 5, i % 5), due[i / 5][i % 5]);
            }
            x.show(0, 1);
            due("quarrel(0, 4)", x.quarrel(0, 4), 1);
            x.undo();
            due("quarrel(0, 4), undone", x.quarrel(0, 4), NONE);
        });
        edge(11, "NoSuchElementException: likewise", () -> {
            int[][] others = {{2, 0}, {-1, 0}, {8, 0}, {MAX, 0}, {MIN, 0}, {0, 5}, {0, -1}, {1, 5}, {0, MAX}, {0, MIN}, {2, 4}};
            for (int[] o : others) {
                throwing("quarrel(" + o[0] + ", " + o[1] + ")", Edges::rich, x -> x.quarrel(o[0], o[1]));
            }
        });
        edge(12, "of a CLUB, what 0 .. 5", () -> {
            int[][] due = {{70, 6, 0, 3, 5, 39}, {145, 4, 2, 4, 10, 70}};
            BluesAndGreens x = rich();
            for (int i = 0; i < 12; i++) {
                due("club(" + i / 6 + ", " + i % 6 + ")", x.club(i / 6, i % 6), due[i / 6][i % 6]);
            }
        });
        edge(12, "NoSuchElementException: likewise", () -> {
            int[][] others = {{2, 0}, {-1, 0}, {MAX, 0}, {MIN, 0}, {0, 6}, {0, -1}, {1, 6}, {0, MAX}, {0, MIN}};
            for (int[] o : others) {
                throwing("club(" + o[0] + ", " + o[1] + ")", Edges::rich, x -> x.club(o[0], o[1]));
            }
        });
        edge(12, "all eight of one CLUB, and none", () -> {
            BluesAndGreens x = city(times("10g;", 7) + "10g", times("99b0;", 7) + "99b0", "");
            int[][] due = {{0, 255, 792}, {255, 0, 0}};
            for (int club = 0; club < 2; club++) {
                for (int what = 3; what < 6; what++) {
                    due("club(" + club + ", " + what + ")", x.club(club, what), due[club][what - 3]);
                }
            }
        });
    }

    private static void limit() {
        edge(13, "LIMIT becomes v (1 .. 99): what it was", () -> {
            BluesAndGreens x = rich();
            due("limit(1)", x.limit(1), 7);
            due("LIMIT", x.count(3), 1);
            due("limit(99)", x.limit(99), 1);
            due("LIMIT", x.count(3), 99);
            due("limit(99) again", x.limit(99), 99);
            due("what can be undone goes on", x.count(9), 4);
            due("what is kept goes on", x.again(1), true);
            due("LIMIT is not kept", x.count(3), 99);
        });
        edge(13, "Refused: others", () -> {
            for (int v : new int[] {0, 100, -1, MAX, MIN}) {
                refused("limit(" + v + ")", x -> x.limit(v), NONE);
            }
        });
        edge(13, "they JOIN at 99, not at 98", () -> {
            // one of each by turns: behind 98 RACES 99 98
            BluesAndGreens x = city("50b;50g", "", "0010");
            rule(x, "n-n/2*2=i");
            races(x, 98);
            due("ANGER of blue", x.club(0, 1), 99);
            due("ANGER of green", x.club(1, 1), 98);
            x.limit(99);
            due("they JOIN", x.count(5), 0);
            due("show()", x.show(0, 0), 1);
            due("they JOIN", x.count(5), 1);
        });
    }

    // ---- the sheet

    private static void sheetIs(String what, int kind, int f, int price) {
        BluesAndGreens x = city("150b", "", "");
        due(what + ", the sum", x.sheet(kind, 1, f, 0), price);
        due(what + ", PRICE", x.driver(0, 1), price);
    }

    private static void sheet() {
        edge(14, "put to 0 .. 99", () -> {
            for (int kind = 0; kind < 3; kind++) {
                sheetIs("kind " + kind + ", 0", kind, 0, 0);
                sheetIs("kind " + kind + ", 1", kind, 1, 1);
                sheetIs("kind " + kind + ", -1", kind, -1, 0);
                sheetIs("kind " + kind + ", 99", kind, 99, 99);
                sheetIs("kind " + kind + ", 100", kind, 100, 99);
            }
        });
        edge(14, "of bytes the lowest bits, with their sign", () -> {
            int[] f = {127, 128, 255, 256, 257, 355, 383, 384, -128, -129, -256, -255, MAX, MIN, MIN + 5};
            int[] price = {99, 0, 0, 0, 1, 99, 99, 0, 0, 99, 0, 1, 0, 0, 5};
            for (int i = 0; i < f.length; i++) {
                sheetIs("byte " + f[i], 0, f[i], price[i]);
            }
        });
        edge(14, "of shorts the lowest bits, with their sign", () -> {
            int[] f = {128, 255, 32767, 32768, 65535, 65536, 65537, -32768, -32769, -65535, MAX, MIN, MIN + 6};
            int[] price = {99, 99, 99, 0, 0, 0, 1, 0, 99, 1, 0, 0, 6};
            for (int i = 0; i < f.length; i++) {
                sheetIs("short " + f[i], 1, f[i], price[i]);
            }
        });
        edge(14, "ints as they are", () -> {
            int[] f = {128, 32768, 65536, MAX, MIN, -65535};
            int[] price = {99, 99, 99, 99, 0, 0};
            for (int i = 0; i < f.length; i++) {
                sheetIs("int " + f[i], 2, f[i], price[i]);
            }
        });
        edge(14, "n entries f, f + step, .. (as ints)", () -> {
            BluesAndGreens x = city(times("150b;", 7) + "150g", "", "");
            due("by steps of 9", x.sheet(2, 8, 40, 9), 40 + 49 + 58 + 67 + 76 + 85 + 94 + 99);
            due("by steps below 0", x.sheet(2, 8, 20, -9), 20 + 11 + 2);
            due("round by the most int", x.sheet(2, 3, MAX - 1, 1), 99 + 99);
            due("round by steps", x.sheet(2, 3, 5, 1 << 31), 5 + 5);
            due("bytes go round", x.sheet(0, 3, 90, 83), 90 + 0 + 0);
            due("bytes go round", x.sheet(0, 3, 90, 86), 90 + 0 + 6);
            due("all of 0", x.sheet(2, 8, 0, 0), 0);
            due("all of 99", x.sheet(2, 8, 99, 0), 792);
        });
        edge(14, "those behind it have 0: the sum of all", () -> {
            for (int n = 0; n <= 8; n++) {
                BluesAndGreens x = city("150b;150b;150g", "", "");
                due("n of " + n, x.sheet(2, n, 7, 1), new int[] {0, 7, 15, 24, 24, 24, 24, 24, 24}[n]);
                for (int i = 0; i < 3; i++) {
                    due("PRICE of DRIVER " + i + ", n of " + n, x.driver(i, 1), i < n ? 7 + i : 0);
                }
            }
            due("no DRIVERS", new BluesAndGreens().sheet(2, 8, 5, 0), 0);
        });
        edge(14, "-2: n below 0 (of kinds 0 .. 2; nothing changes)", () -> {
            for (int kind = 0; kind < 3; kind++) {
                int k = kind;
                refused("kind " + k + ", n -1", x -> x.sheet(k, -1, 5, 5), -2);
                refused("kind " + k + ", n MIN", x -> x.sheet(k, MIN, 5, 5), -2);
                refused("kind " + k + ", n -1, no DRIVERS", Edges::poor, x -> x.sheet(k, -1, 5, 5), -2);
            }
        });
        edge(14, "-3: missing (all 0)", () -> {
            for (int n : new int[] {0, 8, -1, MIN}) {
                BluesAndGreens x = rich();
                due("n " + n, x.sheet(3, n, 5, 5), -3);
                for (int i = 0; i < 3; i++) {
                    due("PRICE of DRIVER " + i, x.driver(i, 1), 0);
                }
                due("numbers of the ROW", x.count(10), 3);
                due("signs of THE TEXT", x.count(11), 3);
                due("what can be undone", x.count(9), 4);
            }
            due("no DRIVERS", new BluesAndGreens().sheet(3, 0, 0, 0), -3);
        });
        edge(14, "NONE: another kind, n above 8 (these first)", () -> {
            int[][] others = {{4, 3}, {-1, 3}, {MAX, 3}, {MIN, 3}, {4, -1}, {-1, -1}, {4, 9}, {0, 9}, {1, 9}, {2, 9}, {3, 9}, {2, MAX}, {3, MAX}};
            for (int[] o : others) {
                refused("kind " + o[0] + ", n " + o[1], x -> x.sheet(o[0], o[1], 5, 5), NONE);
                refused("kind " + o[0] + ", n " + o[1] + ", no DRIVERS", Edges::poor, x -> x.sheet(o[0], o[1], 5, 5), NONE);
            }
        });
        edge(14, "PRICES are none of what undo() and again() give back", () -> {
            BluesAndGreens x = rich();
            x.sheet(2, 3, 11, 0);
            x.undo();
            due("PRICE, undone", x.driver(0, 1), 11);
            x.again(0);
            due("PRICE, again", x.driver(2, 1), 11);
        });
    }

    public static void main(String[] args) {
        money();
        anger();
        racing();
        eight();
        rows();
        questions();
        newObject();
        text();
        drivers();
        quarters();
        quarrels();
        rule();
        strength();
        asked();
        limit();
        sheet();
        finish(0, 14);
    }
}
