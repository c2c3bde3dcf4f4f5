import java.util.function.ToLongFunction;

/** Edges of promises 15 (race) to 22 (undo). */
public final class SeasonEdgeTests extends Edges {
    private static final ToLongFunction<BluesAndGreens> SEASON = BluesAndGreens::season;

    // ---- RACES

    private static void race() {
        edge(15, "n RACES (0 .. 60): 0", () -> {
            BluesAndGreens x = rich();
            due("race(0)", x.race(0), 0);
            row("race(0)", x, NONE, 0);
            x.order();
            same("race(0)", x, rich());
        });
        edge(15, "n RACES (0 .. 60): 0, though they JOIN now", () -> {
            BluesAndGreens x = city("10b", "", "9090");
            x.show(0, 0);
            x.limit(9);
            due("race(0)", x.race(0), 0);
            row("race(0)", x, NONE, 0);
        });
        edge(15, "n RACES (0 .. 60): 60", () -> {
            BluesAndGreens x = city("10g;20b", "", "");
            due("race(60)", x.race(60), 60);
            row("race(60)", x, 1, 0);
            due("RACE", x.count(4), 60);
            due("WINS", x.club(0, 2), 60);
            due("WON", x.driver(1, 4), 60);
            due("MONEY", x.club(0, 0), 700);
            due("ANGER", x.club(1, 1), 180);
            due("what can be undone", x.count(9), 1);
            due("undo() of all 60", x.undo(), 0);
            due("RACE", x.count(4), 0);
        });
        edge(15, "NONE: another n", () -> {
            for (int n : new int[] {61, -1, 100, MAX, MIN}) {
                refused("race(" + n + ")", x -> x.race(n), NONE);
            }
        });
        edge(15, "-2: no DRIVERS (asked first)", () -> {
            for (int n : new int[] {0, 1, 60, 61, -1, MAX, MIN}) {
                refused("race(" + n + ")", Edges::poor, x -> x.race(n), -2);
            }
        });
        edge(15, "in how many of these, behind the RACE, they JOIN", () -> {
            // blue wins: 3 3, then 2 6, 1 9, 0 12
            int[][] limits = {{3, 0}, {2, 1}, {1, 2}};
            for (int[] limit : limits) {
                BluesAndGreens x = city("10b", "", "3030");
                x.show(0, 0);
                x.limit(limit[0]);
                due("they JOIN ahead of it", x.count(5), 1);
                due("race(3)", x.race(3), 3);
                row("race(3), LIMIT " + limit[0], x, 0, limit[1]);
            }
            // green wins: 3 3, then 6 2
            BluesAndGreens y = city("10g", "", "3030");
            y.show(0, 0);
            y.limit(2);
            due("race(1)", y.race(1), 0);
            row("race(1), behind the last", y, 0, 1);
        });
        edge(15, "the DRIVER who won the last", () -> {
            BluesAndGreens x = city("10b;10g;10g", "", "");
            rule(x, "n=i");
            int[] last = {0, 1, 2, 0};
            for (int i = 0; i < 4; i++) {
                x.race(1);
                row("RACE " + i, x, last[i], 0);
            }
            x.race(7);
            row("RACES 4 to 10", x, 2, 0);
        });
    }

    // ---- what is bought, cursed, dug out

    private static BluesAndGreens richWithPrices(int price) {
        BluesAndGreens x = rich();
        x.sheet(2, 3, price, 0);
        return x;
    }

    private static void buy() {
        edge(16, "-3: MONEY is too little: 70 buys for 70, not for 71", () -> {
            BluesAndGreens x = richWithPrices(70);
            due("for all that it has", x.buy(0, 2), 0);
            due("the CLUB", x.driver(2, 2), 0);
            due("MONEY of the other one", x.club(1, 0), 215);
            refused("for 1 more", () -> richWithPrices(71), y -> y.buy(0, 2), -3);
            refused("for 99", () -> richWithPrices(99), y -> y.buy(0, 2), -3);
        });
        edge(16, "for PRICE: 0 and 99", () -> {
            due("for nothing", richWithPrices(0).buy(0, 2), 70);
            due("for 99", richWithPrices(99).buy(1, 0), 46);
        });
        edge(16, "for nothing, with nothing", () -> {
            BluesAndGreens x = richWithPrices(70);
            x.buy(0, 2);
            x.sheet(2, 3, 0, 0);
            x.buy(1, 0);
            due("for nothing", x.buy(0, 0), 0);
            x.undo();
            x.sheet(2, 3, 1, 0);
            due("for 1", x.buy(0, 0), -3);
        });
        edge(16, "the other one has PRICE more (9999 at most)", () -> {
            int[][] paid = {{0, 9900, 99, 9999}, {0, 9900, 98, 9998}, {1, 9901, 99, 9999}, {1, 9901, 98, 9999}};
            for (int[] p : paid) {
                BluesAndGreens x = city("90b;10b;10b", "", "");
                x.sheet(2, 3, p[0], 0);
                x.buy(1, 2);
                races(x, 980);
                due("MONEY of blue", x.club(0, 0), p[1]);
                x.sheet(2, 3, p[2], 0);
                due("buy() for " + p[2], x.buy(1, 1), 100 - p[0] - p[2]);
                due("MONEY of blue", x.club(0, 0), p[3]);
                x.undo();
                due("undone", x.club(0, 0), p[1]);
            }
        });
        edge(16, "-2: he is its own (asked ahead of MONEY)", () -> {
            refused("buy(0, 0)", x -> x.buy(0, 0), -2);
            refused("buy(1, 2)", x -> x.buy(1, 2), -2);
            refused("buy(0, 1), who was bought", x -> x.buy(0, 1), -2);
            refused("buy(0, 0), too dear", () -> richWithPrices(99), x -> x.buy(0, 0), -2);
        });
        edge(16, "NONE: none such", () -> {
            int[][] others = {{2, 0}, {-1, 0}, {MAX, 0}, {MIN, 0}, {0, 3}, {0, -1}, {1, 8}, {0, MAX}, {0, MIN}, {2, 3}, {-1, -1}};
            for (int[] o : others) {
                refused("buy(" + o[0] + ", " + o[1] + ")", x -> x.buy(o[0], o[1]), NONE);
            }
            refused("buy(0, 0) of none", Edges::poor, x -> x.buy(0, 0), NONE);
        });
        edge(16, "what is his goes with him", () -> {
            BluesAndGreens x = city("50b;110g", "", "");
            x.race(3);
            x.curse(1, 0);
            due("buy(1, 0)", x.buy(1, 0), 95);
            due("CURSED", x.driver(0, 3), 1);
            due("WON", x.driver(0, 4), 3);
            due("WINS stay", x.club(0, 2), 3);
        });
    }

    /** Blue has so much MONEY left (1 .. 100), green the rest of 200. */
    private static BluesAndGreens withMoney(int left) {
        BluesAndGreens x = city("150b;150b;150g;150g;150g;150g", "", "");
        x.sheet(2, 6, 100 - left, 0);
        x.buy(0, 2);
        x.sheet(2, 6, 0, 0);
        x.buy(1, 2);
        x.keep(0);
        x.order();
        tell(x, "55b");
        return x;
    }

    private static void curse() {
        edge(17, "for 5; -4: MONEY is too little: 5 is enough, 4 is not", () -> {
            BluesAndGreens x = withMoney(5);
            due("MONEY", x.club(0, 0), 5);
            due("with 5", x.curse(0, 2), 0);
            due("CURSED ones", x.count(6), 4);
            due("no one has the 5", x.club(1, 0), 195);
            for (int left = 1; left < 5; left++) {
                int l = left;
                refused("with " + l, () -> withMoney(l), y -> y.curse(0, 2), -4);
            }
            due("with 6", withMoney(6).curse(0, 2), 1);
        });
        edge(17, "-2: he is its own (asked ahead of CURSED, and of MONEY)", () -> {
            refused("curse(0, 0), who is CURSED", x -> x.curse(0, 0), -2);
            refused("curse(0, 1), who was bought", x -> x.curse(0, 1), -2);
            refused("curse(1, 2)", x -> x.curse(1, 2), -2);
            refused("curse(0, 0), with 4", () -> withMoney(4), x -> x.curse(0, 0), -2);
        });
        edge(17, "-3: he is CURSED (asked ahead of MONEY)", () -> {
            refused("curse(1, 0), who is CURSED", x -> x.curse(1, 0), -3);
            refused("curse(0, 2), who is CURSED, with 1", () -> {
                BluesAndGreens x = withMoney(6);
                x.curse(0, 2);
                return x;
            }, x -> x.curse(0, 2), -3);
        });
        edge(17, "NONE: none such", () -> {
            int[][] others = {{2, 0}, {-1, 0}, {MAX, 0}, {MIN, 0}, {0, 3}, {0, -1}, {1, 8}, {0, MAX}, {0, MIN}, {2, 3}};
            for (int[] o : others) {
                refused("curse(" + o[0] + ", " + o[1] + ")", x -> x.curse(o[0], o[1]), NONE);
            }
            refused("curse(0, 0) of none", Edges::poor, x -> x.curse(0, 0), NONE);
            refused("curse(0, 31)", x -> x.curse(0, 31), NONE);
            refused("curse(0, 32)", x -> x.curse(0, 32), NONE);
        });
        edge(17, "the eighth DRIVER can be cursed", () -> {
            BluesAndGreens x = city(times("10g;", 7) + "10g", "", "");
            due("curse(0, 7)", x.curse(0, 7), 95);
            due("CURSED ones", x.count(6), 128);
            refused("curse(0, 8)", () -> city(times("10g;", 7) + "10g", "", ""), y -> y.curse(0, 8), NONE);
        });
    }

    private static BluesAndGreens cursedWithMoney(int left) {
        BluesAndGreens x = withMoney(left);
        x.curse(1, 0);
        return x;
    }

    private static void dig() {
        edge(18, "for 3; -3: MONEY is too little: 3 is enough, 2 is not", () -> {
            BluesAndGreens x = cursedWithMoney(3);
            due("with 3", x.dig(0), 0);
            due("CURSED ones", x.count(6), 0);
            due("no one has the 3", x.club(1, 0), 192);
            refused("with 2", () -> cursedWithMoney(2), y -> y.dig(0), -3);
            refused("with 1", () -> cursedWithMoney(1), y -> y.dig(0), -3);
            due("with 4", cursedWithMoney(4).dig(0), 1);
        });
        edge(18, "-2: he is not CURSED (asked ahead of MONEY)", () -> {
            refused("dig(1)", x -> x.dig(1), -2);
            refused("dig(0), with 2", () -> withMoney(2), x -> x.dig(0), -2);
            refused("dig(0), dug out", () -> {
                BluesAndGreens x = rich();
                x.dig(0);
                return x;
            }, x -> x.dig(0), -2);
        });
        edge(18, "NONE: none such", () -> {
            for (int driver : new int[] {3, -1, 8, 32, MAX, MIN}) {
                refused("dig(" + driver + ")", x -> x.dig(driver), NONE);
            }
            refused("dig(0) of none", Edges::poor, x -> x.dig(0), NONE);
        });
        edge(18, "by his CLUB: that which he is of now", () -> {
            BluesAndGreens x = city("110b;110g", "", "");
            x.curse(1, 0);
            x.buy(1, 0);
            due("dig(0)", x.dig(0), 82);
            due("MONEY of blue", x.club(0, 0), 110);
        });
    }

    // ---- grain, sides

    private static BluesAndGreens angry() {
        BluesAndGreens x = city("", "", "9090;9090");
        x.show(0, 0);
        x.show(1, 0);
        x.rests(1, 2);
        tell(x, "55b");
        return x;
    }

    private static void grain() {
        edge(19, "ANGER is n (1 .. 99) less (0 at least): ANGER", () -> {
            int[][] due = {{1, 17}, {17, 1}, {18, 0}, {19, 0}, {98, 0}, {99, 0}};
            for (int[] d : due) {
                for (int club = 0; club < 2; club++) {
                    BluesAndGreens x = angry();
                    due("grain(" + club + ", " + d[0] + ")", x.grain(club, d[0]), d[1]);
                    due("ANGER", x.club(club, 1), d[1]);
                    due("ANGER of the other one", x.club(1 - club, 1), 18);
                    due("undo()", x.undo(), 2);
                    due("ANGER, undone", x.club(club, 1), 18);
                }
            }
        });
        edge(19, "99 less of more than 99", () -> {
            BluesAndGreens x = city("10b", "", "");
            races(x, 400);
            due("grain(1, 99)", x.grain(1, 99), 900);
            due("grain(1, 1)", x.grain(1, 1), 899);
        });
        edge(19, "of ANGER 0 nothing is left to be less, but it is thrown", () -> {
            BluesAndGreens x = new BluesAndGreens();
            due("grain(0, 1)", x.grain(0, 1), 0);
            due("what can be undone", x.count(9), 1);
        });
        edge(19, "Refused: others", () -> {
            int[][] others = {{0, 0}, {0, 100}, {1, 0}, {1, 100}, {0, -1}, {0, MAX}, {0, MIN}, {2, 5}, {-1, 5}, {MAX, 5}, {MIN, 5}};
            for (int[] o : others) {
                refused("grain(" + o[0] + ", " + o[1] + ")", SeasonEdgeTests::angry, x -> x.grain(o[0], o[1]), NONE);
                refused("grain(" + o[0] + ", " + o[1] + ")", x -> x.grain(o[0], o[1]), NONE);
            }
        });
    }

    private static void show() {
        edge(20, "a side (0, 1): ANGER of blue and green grows by it", () -> {
            int[][] due = {{1, 3}, {2, 4}};
            for (int side = 0; side < 2; side++) {
                BluesAndGreens x = city("", "", "1234");
                due("show(0, " + side + ")", x.show(0, side), 0);
                due("ANGER of blue", x.club(0, 1), due[side][0]);
                due("ANGER of green", x.club(1, 1), due[side][1]);
                due("the side", x.quarrel(0, 4), side);
                due("what can be undone", x.count(9), 1);
            }
        });
        edge(20, "by 0 and by 9", () -> {
            BluesAndGreens x = city("", "", "0990");
            x.show(0, 0);
            due("ANGER of blue", x.club(0, 1), 0);
            due("ANGER of green", x.club(1, 1), 9);
        });
        edge(20, "ANGER grows (999 at most)", () -> {
            int[][] due = {{0, 990, 999}, {1, 991, 999}, {9, 999, 999}};
            for (int[] d : due) {
                BluesAndGreens x = city("10b", "", "00" + d[0] + "0;0099;0088");
                x.show(0, 0);
                races(x, 330);
                due("ANGER of green", x.club(1, 1), d[1]);
                x.show(2, 0);
                due("8 more", x.club(1, 1), Math.min(999, d[1] + 8));
                x.undo();
                x.show(1, 1);
                due("9 more", x.club(1, 1), d[2]);
                x.undo();
                due("undone", x.club(1, 1), d[1]);
            }
            BluesAndGreens y = city("10g", "", "9000;9000");
            races(y, 332);
            y.show(0, 0);
            due("ANGER of blue", y.club(0, 1), 999);
        });
        edge(20, "1 if they JOIN then, else 0", () -> {
            int[][] limits = {{6, 1}, {7, 1}, {8, 0}};
            for (int[] limit : limits) {
                BluesAndGreens x = city("", "", "7080");
                x.limit(limit[0]);
                due("show(), LIMIT " + limit[0], x.show(0, 0), limit[1]);
            }
            BluesAndGreens x = city("", "", "9090;0000");
            x.limit(9);
            due("the first", x.show(0, 0), 1);
            due("the second, who adds nothing", x.show(1, 1), 1);
        });
        edge(20, "-2: it was shown", () -> {
            refused("show(1, 0), the same side", x -> x.show(1, 0), -2);
            refused("show(1, 1), the other side", x -> x.show(1, 1), -2);
            BluesAndGreens x = rich();
            x.undo();
            due("show(1, 1), undone", x.show(1, 1), 0);
        });
        edge(20, "NONE: others (also of one that was shown)", () -> {
            int[][] others = {{0, 2}, {0, -1}, {0, MAX}, {0, MIN}, {1, 2}, {1, -1}, {2, 0}, {-1, 0}, {8, 1}, {MAX, 0}, {MIN, 0}, {2, 2}};
            for (int[] o : others) {
                refused("show(" + o[0] + ", " + o[1] + ")", x -> x.show(o[0], o[1]), NONE);
            }
            refused("show(0, 0) of none", Edges::poor, x -> x.show(0, 0), NONE);
        });
        edge(20, "the eighth QUARREL can be shown", () -> {
            BluesAndGreens x = city("", "", times("0000;", 7) + "1111");
            due("show(7, 0)", x.show(7, 0), 0);
            due("QUARRELS shown", x.count(7), 128);
            due("show(8, 0)", x.show(8, 0), NONE);
        });
    }

    // ---- the season

    private static void seasonText() {
        edge(21, "an empty one: nothing", () -> {
            BluesAndGreens x = rich();
            due("season()", season(x, ""), 0);
            row("season()", x, 0, 0);
            x.order();
            BluesAndGreens twin = rich();
            twin.end(0);
            same("season()", x, twin);
            BluesAndGreens y = angry();
            y.limit(18);
            due("season(), as they JOIN", season(y, ""), 0);
            row("season(), as they JOIN", y, 0, 1);
        });
        edge(21, "r and a digit; d and a digit", () -> {
            for (String act : new String[] {"r", "d"}) {
                wrongAll(Edges::rich, SEASON, act, 1, act + "/", 1, act + ":", 1, act + "x", 1, act + act, 1, act + "00", 2, act + "12", 2);
            }
            BluesAndGreens x = city("10b", "", "");
            due("r0 .. r9", season(x, "r0r1r2r3r4r5r6r7r8r9"), 10);
            due("RACE", x.count(4), 45);
            row("season()", x, 0, 0);
        });
        edge(21, "b, c, g: a digit 0 or 1, a digit", () -> {
            for (String act : new String[] {"b", "c", "g"}) {
                wrongAll(Edges::rich, SEASON, act, 1, act + "/", 1, act + "2", 1, act + "20", 1, act + "x0", 1, act + "0", 2, act + "1", 2,
                    act + "0/", 2, act + "1:", 2, act + "0x", 2, act + "111", 3);
            }
        });
        edge(21, "s, a digit, a digit 0 or 1", () -> {
            wrongAll(Edges::rich, SEASON, "s", 1, "s/", 1, "s:", 1, "sx", 1, "s0", 2, "s0/", 2, "s02", 2, "s0x", 2, "s010", 3, "s92", 2);
            BluesAndGreens x = city("", "", times("0000;", 7) + "1111");
            due("s70", season(x, "s70s01"), 2);
            due("QUARRELS shown", x.count(7), 129);
            due("the side of QUARREL 7", x.quarrel(7, 4), 0);
            due("the side of QUARREL 0", x.quarrel(0, 4), 1);
            due("s80 can't be", season(x, "s11s80"), 1);
            row("s80 can't be", x, 1, 0);
        });
        edge(21, "without signs between; other letters can't stand", () -> {
            for (char letter = ' '; letter < 127; letter++) {
                if ("rbcdgs".indexOf(letter) < 0) {
                    wrongAt(Edges::poor, SEASON, "r1" + letter + "1", 2);
                }
            }
            wrongAll(Edges::rich, SEASON, ";", 0, "r1;r1", 2, "R1", 0, "0", 0, (char) 0 + "r1", 0);
        });
        edge(21, "the first digit and the second one of each ACT", () -> {
            BluesAndGreens x = city("530b;230g;230g", "", "1234;5678");
            due("all six", season(x, "b01c11d1s11g14r2"), 6);
            row("all six", x, 0, 0);
            // 100 - 30 - 3 + 20 and 100 + 30 - 5; 6 - 2 and 8 - 4 + 6
            int[][] clubs = {{87, 4, 2, 3}, {125, 10, 0, 4}};
            for (int i = 0; i < 8; i++) {
                due("club(" + i / 4 + ", " + i % 4 + ")", x.club(i / 4, i % 4), clubs[i / 4][i % 4]);
            }
            due("QUARRELS shown", x.count(7), 2);
            due("the side", x.quarrel(1, 4), 1);
            due("CURSED ones", x.count(6), 0);
            due("another curse, another side", season(x, "c02s00"), 2);
            due("CURSED ones", x.count(6), 4);
            due("the side", x.quarrel(0, 4), 0);
            due("MONEY of blue", x.club(0, 0), 82);
        });
        edge(21, "60 signs can stand, not 61", () -> {
            BluesAndGreens x = city("10b", "", "");
            due("60 signs", season(x, times("r1", 30)), 30);
            due("RACE", x.count(4), 30);
            due("60 signs by threes", season(x, times("g01", 20)), 20);
            due("what can be undone", x.count(9), 2);
            wrongAll(Edges::rich, SEASON, times("r1", 30) + "r", 60, times("r1", 31), 60, times("g01", 21), 60, times("r1", 40), 60);
        });
        edge(21, "60, if it has more and the first 60 could go on or end", () ->
            wrongAll(Edges::rich, SEASON, times("r1", 30) + "x", 60, times("r1", 28) + "g01rx", 60, times("r1", 29) + "g0x", 60,
                times("r1", 29) + "g01", 60, times("r1", 28) + "g01gg", 60, times("g01", 19) + "r1b2", 60, times("r1", 30) + times("?", 20), 60));
        edge(21, "ahead of 60 the first sign that can't stand is told, also if it has more", () ->
            wrongAll(Edges::rich, SEASON, times("r1", 29) + "rx1", 59, times("r1", 29) + "g2x1", 59, times("r1", 29) + "x111", 58, "x" + times("r1", 39), 0,
                times("r1", 28) + "s02r1", 58));
        edge(21, "its end, if it ends too early", () ->
            wrongAll(Edges::rich, SEASON, times("r1", 29) + "r", 59, times("g01", 19) + "g0", 59, times("r1", 29) + "g0", 60, "r1r", 3));
        edge(21, "-1 - p: nothing is done then", () -> {
            BluesAndGreens x = rich();
            due("the last can't stand", season(x, "r9b02c10d0g19s00r"), -18);
            due("RACE", x.count(4), 2);
            due("QUARRELS shown", x.count(7), 2);
            due("what can be undone", x.count(9), 4);
            row("season(), the ROW is as it was", x, 2, 1, 0);
        });
    }

    private static void endsAt(String what, BluesAndGreens x, String act) {
        due(what, season(x, "g01" + act + "g11g11"), 1);
        row(what, x, 1, 0);
    }

    private static void seasonActs() {
        edge(21, "till one can't be (it answers below 0): race()", () -> {
            endsAt("without DRIVERS", new BluesAndGreens(), "r1");
            endsAt("of 0, without DRIVERS", new BluesAndGreens(), "r0");
        });
        edge(21, "till one can't be (it answers below 0): buy()", () -> {
            endsAt("of none such", city("110b", "", ""), "b01");
            endsAt("of none such", city("110b", "", ""), "b19");
            endsAt("of its own", city("110b", "", ""), "b00");
            BluesAndGreens x = city("160b;140b;141b", "", "");
            x.buy(1, 0);
            endsAt("with too little", x, "b12");
            due("with just enough", season(x, "b11g01"), 2);
            row("with just enough", x, 0, 0);
        });
        edge(21, "till one can't be (it answers below 0): curse()", () -> {
            endsAt("of none such", city("110b", "", ""), "c01");
            endsAt("of its own", city("110b", "", ""), "c00");
            endsAt("of one who is CURSED", cursedWithMoney(5), "c10");
            endsAt("with too little", withMoney(4), "c02");
            due("with just enough", season(withMoney(5), "c02g01"), 2);
        });
        edge(21, "till one can't be (it answers below 0): dig()", () -> {
            endsAt("of none such", city("110b", "", ""), "d1");
            endsAt("of one who is not CURSED", city("110b", "", ""), "d0");
            endsAt("with too little", cursedWithMoney(2), "d0");
            due("with just enough", season(cursedWithMoney(3), "d0g01"), 2);
        });
        edge(21, "till one can't be (it answers below 0): show()", () -> {
            endsAt("of none such", city("", "", "0000"), "s10");
            endsAt("of none such", city("", "", "0000"), "s91");
            BluesAndGreens x = city("", "", "0000");
            x.show(0, 1);
            endsAt("of what was shown", x, "s00");
        });
        edge(21, "grain(); refused for 0", () -> {
            endsAt("g00", new BluesAndGreens(), "g00");
            endsAt("g10", new BluesAndGreens(), "g10");
            BluesAndGreens x = angry();
            due("g01 g02 g12 g19", season(x, "g01g02g12g19"), 4);
            due("ANGER of blue", x.club(0, 1), 15);
            due("ANGER of green", x.club(1, 1), 7);
        });
        edge(21, "an act that answers 0 is done", () -> {
            BluesAndGreens x = city("199b;199g;11g", "", "0000");
            due("all of them answer 0 or more", season(x, "r0g09s00"), 3);
            row("all of them", x, 0, 0);
            x.sheet(2, 3, 95, 0);
            due("buy() and curse() to nothing left", season(x, "b01c02r0"), 3);
            due("MONEY", x.club(0, 0), 0);
        });
        edge(21, "how many were done: none, and all but the last", () -> {
            BluesAndGreens x = rich();
            due("the first can't be", season(x, "g00r1r1"), 0);
            row("the first can't be", x, 1, 0);
            x.order();
            BluesAndGreens twin = rich();
            twin.end(0);
            same("the first can't be", x, twin);
            BluesAndGreens y = rich();
            due("the last can't be", season(y, "r1r1g00"), 2);
            row("the last can't be", y, 1, 0);
            due("RACE", y.count(4), 4);
        });
        edge(21, "1 if they JOIN then", () -> {
            int[][] limits = {{7, 0, 1}, {8, 0, 0}};
            for (int[] limit : limits) {
                BluesAndGreens x = city("", "", "7080");
                x.limit(limit[0]);
                due("season()", season(x, "s00"), 1);
                row("season(), LIMIT " + limit[0], x, limit[1], limit[2]);
            }
            BluesAndGreens x = city("", "", "7080");
            x.limit(7);
            due("they JOIN between, not then", season(x, "s00g01"), 2);
            row("they JOIN between, not then", x, 0, 0);
            BluesAndGreens y = city("", "", "7080");
            y.limit(7);
            due("they JOIN, and one could not be", season(y, "s00g00"), 1);
            row("they JOIN, and one could not be", y, 1, 1);
        });
    }

    // ---- undone

    private static void undoing(String what, ToLongFunction<BluesAndGreens> act, int answer) {
        BluesAndGreens x = rich();
        due(what, act.applyAsLong(x), answer);
        due(what + ", what can be undone", x.count(9), 5);
        due(what + ", undo()", x.undo(), 4);
        x.order();
        tell(x, "55b");
        same(what + ", undone", x, rich());
    }

    private static void notUndone(String what, ToLongFunction<BluesAndGreens> act, int answer) {
        BluesAndGreens x = rich();
        due(what, act.applyAsLong(x), answer);
        due(what + ", what can be undone", x.count(9), 4);
        due(what + ", undo() of show()", x.undo(), 3);
        due(what + ", QUARRELS shown", x.count(7), 0);
    }

    private static void undo() {
        edge(22, "Refused: none", () -> {
            refused("of a new object", BluesAndGreens::new, BluesAndGreens::undo, NONE);
            refused("all being undone", () -> {
                BluesAndGreens x = rich();
                for (int left = 3; left >= 0; left--) {
                    due("undo()", x.undo(), left);
                }
                return x;
            }, BluesAndGreens::undo, NONE);
        });
        edge(22, "all of it is as ahead of it, by each kind of call", () -> {
            undoing("race()", x -> x.race(1), 0);
            undoing("race() of 60", x -> x.race(60), 0);
            undoing("buy()", x -> x.buy(1, 0), 125);
            undoing("curse()", x -> x.curse(1, 1), 140);
            undoing("dig()", x -> x.dig(0), 67);
            undoing("grain()", x -> x.grain(0, 5), 1);
            undoing("grain() of more than there is", x -> x.grain(0, 99), 0);
            undoing("show()", x -> x.show(0, 1), 1);
            undoing("season()", x -> season(x, "r3b10c11d0g14s01"), 6);
            undoing("season() of one ACT", x -> season(x, "d0"), 1);
            undoing("season() of which one ACT was done", x -> season(x, "r2g00r1"), 1);
        });
        edge(22, "race() of 1 and more, not of 0", () -> {
            notUndone("race(0)", x -> x.race(0), 0);
            undoing("race(1)", x -> x.race(1), 0);
        });
        edge(22, "season() of which one ACT was done, not of none", () -> {
            notUndone("season() of nothing", x -> season(x, ""), 0);
            notUndone("season() of which none was done", x -> season(x, "g00r1"), 0);
            notUndone("season() of which a sign can't stand", x -> season(x, "r1r"), -4);
            undoing("season() of r0", x -> season(x, "r0"), 1);
        });
        edge(22, "such as were done, not refused ones", () -> {
            notUndone("race()", x -> x.race(61), NONE);
            notUndone("buy() of its own", x -> x.buy(0, 0), -2);
            notUndone("buy() of none such", x -> x.buy(0, 3), NONE);
            notUndone("curse() of its own", x -> x.curse(0, 0), -2);
            notUndone("curse() of one who is CURSED", x -> x.curse(1, 0), -3);
            notUndone("dig()", x -> x.dig(1), -2);
            notUndone("grain()", x -> x.grain(0, 0), NONE);
            notUndone("show()", x -> x.show(1, 1), -2);
        });
        edge(22, "calls of other kinds are not undone", () -> {
            notUndone("limit()", x -> x.limit(9), 7);
            notUndone("sheet()", x -> x.sheet(2, 3, 1, 0), 3);
            notUndone("rule()", x -> rule(x, "i"), 0);
            notUndone("heard()", x -> x.heard(0, 1), 2);
            notUndone("forget()", BluesAndGreens::forget, 1);
            notUndone("keep()", x -> x.keep(0) ? 1 : 0, 1);
            notUndone("years()", x -> x.years(1, 1), 0);
        });
        edge(22, "of 12 that are kept, the latest ones", () -> {
            int[][] due = {{11, 11, 0}, {12, 12, 0}, {13, 12, 1}, {24, 12, 12}, {25, 12, 13}, {40, 12, 28}};
            for (int[] d : due) {
                BluesAndGreens x = city("10b;10g", "", "");
                for (int i = 0; i < d[0]; i++) {
                    x.race(1);
                    due("what can be undone", x.count(9), Math.min(12, i + 1));
                }
                for (int left = d[1] - 1; left >= 0; left--) {
                    due("undo()", x.undo(), left);
                    due("RACE", x.count(4), d[2] + left);
                }
                due("undo() of no more", x.undo(), NONE);
                due("RACE", x.count(4), d[2]);
                x.race(1);
                due("one more can be undone", x.undo(), 0);
                due("RACE", x.count(4), d[2]);
            }
        });
        edge(22, "what was undone makes room", () -> {
            BluesAndGreens x = city("10b;10g", "", "");
            for (int i = 0; i < 12; i++) {
                x.race(1);
            }
            for (int i = 0; i < 5; i++) {
                x.undo();
            }
            for (int i = 0; i < 5; i++) {
                x.race(2);
            }
            due("what can be undone", x.count(9), 12);
            for (int i = 0; i < 12; i++) {
                x.undo();
            }
            due("RACE", x.count(4), 0);
        });
        edge(22, "drivers(), quarters(), quarrels() forget them, if they are not refused; empty ones do not", () -> {
            String[] texts = {"11b", "1b1", "1111"};
            for (int i = 0; i < 3; i++) {
                int reader = i;
                ToLongFunction<BluesAndGreens> read = x -> reader == 0 ? x.drivers() : reader == 1 ? x.quarters() : x.quarrels();
                notUndone("an empty one", x -> told(x, "", read), 0);
                notUndone("a refused one", x -> told(x, "x", read), -1);
                notUndone("one refused late", x -> told(x, texts[reader] + ";", read), -2 - texts[reader].length());
                BluesAndGreens x = rich();
                due("one that comes", told(x, texts[i], read), 1);
                due("what can be undone", x.count(9), 0);
                due("undo()", x.undo(), NONE);
                due("RACE", x.count(4), 2);
                due("grain()", x.grain(0, 1), 5);
                due("undo() of what was done since", x.undo(), 0);
                due("ANGER", x.club(0, 1), 6);
            }
        });
        edge(22, "again() forgets them, if it is not refused", () -> {
            notUndone("again(2)", x -> x.again(2) ? 1 : 0, 0);
            notUndone("again(-1)", x -> x.again(-1) ? 1 : 0, 0);
            BluesAndGreens x = rich();
            due("again(1)", x.again(1), true);
            due("what can be undone", x.count(9), 0);
            due("undo()", x.undo(), NONE);
            due("CURSED ones, as they were kept", x.count(6), 1);
            BluesAndGreens y = new BluesAndGreens();
            y.grain(0, 1);
            due("again(0), nothing being kept", y.again(0), false);
            due("what can be undone", y.count(9), 1);
        });
        edge(22, "THE TEXT and the ROW are as they were", () -> {
            BluesAndGreens x = rich();
            x.undo();
            due("signs of THE TEXT", x.count(11), 3);
            row("the ROW", x, 2, 1, 0);
        });
    }

    public static void main(String[] args) {
        race();
        buy();
        curse();
        dig();
        grain();
        show();
        seasonText();
        seasonActs();
        undo();
        finish(15, 22);
    }
}
