import java.util.NoSuchElementException;
import java.util.function.LongSupplier;

/** For each promise: ordinary inputs, the edges that the document names, and wrong inputs. */
public final class PromiseTests {
    private static final int NONE = BluesAndGreens.NONE;
    private static final String THREE_DRIVERS = "520b;330g;725g";
    private static final String FOUR_QUARTERS = "30b0ab;20g1bc;9b2c;50g3";
    private static final String TWO_QUARRELS = "5163;0940";

    private static int promise;
    private static int wrong;
    private static int asked;

    private static void due(String what, long got, long want) {
        asked++;
        if (got != want) {
            wrong++;
            System.out.println("promise " + promise + ": " + what + " answered " + got + ", due is " + want);
        }
    }

    private static void due(String what, boolean got, boolean want) {
        due(what, got ? 1 : 0, want ? 1 : 0);
    }

    private static void none(String what, LongSupplier call) {
        asked++;
        try {
            long got = call.getAsLong();
            wrong++;
            System.out.println("promise " + promise + ": " + what + " answered " + got + ", due is NoSuchElementException");
        } catch (NoSuchElementException e) {
            return;
        }
    }

    private static void rowIs(String what, BluesAndGreens x, long... numbers) {
        due(what + ", numbers of the ROW", x.count(10), numbers.length);
        for (int i = 0; i < numbers.length && i < x.count(10); i++) {
            due(what + ", row(" + i + ")", x.row(i), numbers[i]);
        }
    }

    private static void tell(BluesAndGreens x, String text) {
        x.end(0);
        for (int i = 0; i < text.length(); i += 4) {
            int v = 0;
            for (int j = i; j < i + 4; j++) {
                v = v << 8 | (j < text.length() ? text.charAt(j) & 255 : 0);
            }
            x.sign(v);
        }
        x.end(text.length());
    }

    private static int drivers(BluesAndGreens x, String text) {
        tell(x, text);
        return x.drivers();
    }

    private static int quarters(BluesAndGreens x, String text) {
        tell(x, text);
        return x.quarters();
    }

    private static int quarrels(BluesAndGreens x, String text) {
        tell(x, text);
        return x.quarrels();
    }

    private static int rule(BluesAndGreens x, String text) {
        tell(x, text);
        return x.rule();
    }

    private static int season(BluesAndGreens x, String text) {
        tell(x, text);
        return x.season();
    }

    private static int law(BluesAndGreens x, String text) {
        tell(x, text);
        return x.law();
    }

    /** An object with DRIVERS, QUARTERS and QUARRELS told by texts, which may be empty. */
    private static BluesAndGreens city(String drivers, String quarters, String quarrels) {
        BluesAndGreens x = new BluesAndGreens();
        drivers(x, drivers);
        quarters(x, quarters);
        quarrels(x, quarrels);
        return x;
    }

    private static BluesAndGreens city() {
        return city(THREE_DRIVERS, FOUR_QUARTERS, TWO_QUARRELS);
    }

    private static String times(String s, int n) {
        return s.repeat(n);
    }

    // ---- drivers, quarters, quarrels

    private static void newObject() {
        BluesAndGreens x = new BluesAndGreens();
        int[] counts = {0, 0, 0, 20, 0, 0, 0, 0, 0, 0, 0, 0};
        for (int i = 0; i < counts.length; i++) {
            due("count(" + i + ")", x.count(i), counts[i]);
        }
        int[] club = {100, 0, 0, 0, 0, 0};
        for (int i = 0; i < 12; i++) {
            due("club(" + i / 6 + ", " + i % 6 + ")", x.club(i / 6, i % 6), club[i % 6]);
        }
        due("NONE", NONE, -1);
    }

    private static void sign() {
        BluesAndGreens x = new BluesAndGreens();
        due("sign of 9876", x.sign('9' << 24 | '8' << 16 | '7' << 8 | 'b'), 4);
        due("drivers() of 987b", x.drivers(), 1);
        due("SKILL is of the highest byte", x.driver(0, 0), 9);
        due("PRICE is of the next two", x.driver(0, 1), 87);
        for (int i = 1; i <= 20; i++) {
            due("sign " + i, x.sign(-1), 4 * i);
        }
        due("sign beyond 80", x.sign(0), NONE);
        due("signs then", x.count(11), 80);
        x.end(77);
        due("sign beyond 80 by one", x.sign(0), NONE);
        due("signs then", x.count(11), 77);
        x.end(76);
        due("sign to just 80", x.sign(0), 80);
    }

    private static void end() {
        BluesAndGreens x = new BluesAndGreens();
        due("end(0) of nothing", x.end(0), true);
        due("end(1) of nothing", x.end(1), false);
        x.sign('5' << 24 | '1' << 16 | 'g' << 8 | 'x');
        due("end(-1)", x.end(-1), false);
        due("end(5)", x.end(5), false);
        due("end(MAX)", x.end(Integer.MAX_VALUE), false);
        due("end(MIN)", x.end(Integer.MIN_VALUE), false);
        due("signs", x.count(11), 4);
        due("end(4)", x.end(4), true);
        due("end(3)", x.end(3), true);
        due("signs", x.count(11), 3);
        due("the first three are left", x.drivers(), 1);
    }

    private static void driversTold() {
        String[] texts = {"x", "0", "5", "55", "555", "5555b", "55b;", "55bb", "55b ", "5b", "520B", "55b;;", ";", "55b;05b",
            "55b;5g", "5" + (char) 181 + "b", times("11b;", 8), times("11b;", 9) + "11b", "999b;" + times("999g;", 8) + "x"};
        int[] places = {0, 0, 1, 2, 3, 3, 4, 3, 3, 1, 3, 4, 0, 4, 5, 1, 32, 32, 40};
        for (int i = 0; i < texts.length; i++) {
            BluesAndGreens x = new BluesAndGreens();
            due("drivers() of " + texts[i], drivers(x, texts[i]), -1 - places[i]);
            due("DRIVERS", x.count(0), 0);
            due("signs of THE TEXT, which was read", x.count(11), 0);
        }
        BluesAndGreens x = new BluesAndGreens();
        due("drivers() of nothing", drivers(x, ""), 0);
        due("drivers() of three", drivers(x, THREE_DRIVERS), 3);
        due("drivers() of four more", drivers(x, "10b;105b;100g;999g"), 4);
        int[][] all = {{5, 20, 0}, {3, 30, 1}, {7, 25, 1}, {1, 0, 0}, {1, 5, 0}, {1, 0, 1}, {9, 99, 1}};
        for (int i = 0; i < 21; i++) {
            due("driver(" + i / 3 + ", " + i % 3 + ")", x.driver(i / 3, i % 3), all[i / 3][i % 3]);
        }
        due("drivers() of two, with room for one", drivers(x, "11b;11b"), -5);
        due("none of these came", x.count(0), 7);
        due("drivers() of one, with room for one", drivers(x, "11b"), 1);
        due("drivers() of one, with no room", drivers(x, "11b"), -1);
        due("drivers() of what is none, with no room", drivers(x, "x"), -1);
        due("drivers() of nothing, with no room", drivers(x, ""), 0);
        due("DRIVERS", x.count(0), 8);
    }

    private static void quartersTold() {
        String full = "99b0abcdefghi;";
        String[] texts = {"x", "0", "00", "0b", "0x", "00b0", "5", "5b", "5b5;", "5b5ba", "5b5aa", "5b5j", "555b", "5bx", "5b55",
            "5b5a ", "5b5;0", "5b5;0g1", "5b5;00", times("1b0;", 9) + "1b0", times("1b0;", 8), times(full, 5) + "99b0abcd",
            times(full, 5) + "99b0aba", times(full, 5) + "99b0;00b0", times(full, 5) + "9b0a;0b0", times(full, 5) + "9b0a;0",
            times(full, 5) + "9b0a;05b0", times(full, 5) + "9b0;00b0", times(full, 5) + "9b0;0b0"};
        int[] places = {0, 0, 1, 0, 0, 1, 1, 2, 4, 4, 4, 3, 2, 2, 3, 4, 4, 4, 5, 32, 32, 76, 76, 75, 75, 75, 75, 75, 74};
        for (int i = 0; i < texts.length; i++) {
            BluesAndGreens x = new BluesAndGreens();
            due("quarters() of " + texts[i], quarters(x, texts[i]), -1 - places[i]);
            due("QUARTERS", x.count(1), 0);
            due("signs of THE TEXT", x.count(11), 0);
        }
        BluesAndGreens x = new BluesAndGreens();
        due("quarters() of nothing", quarters(x, ""), 0);
        due("quarters() of 76 signs", quarters(x, times(full, 5) + "09g9ai"), 6);
        int[][] all = {{99, 0, 0, 511}, {9, 1, 9, 257}};
        for (int i = 0; i < 8; i++) {
            due("quarter(" + (i < 4 ? 0 : 5) + ", " + i % 4 + ")", x.quarter(i < 4 ? 0 : 5, i % 4), all[i / 4][i % 4]);
        }
        due("quarters() of three, with room for two", quarters(x, "1b1;10g2b;1b1"), -11);
        due("QUARTERS", x.count(1), 6);
        due("quarters() of two", quarters(x, "1b1;10g2b"), 2);
        due("quarters() with no room", quarters(x, "1b1"), -1);
        due("QUARTERS", x.count(1), 8);
    }

    private static void quarrelsTold() {
        String[] texts = {"x", "1", "111", "1111;", "11111", "1111;;", "111a", "1111;111", "1111 ", times("0000;", 9) + "0",
            times("0000;", 8)};
        int[] places = {0, 1, 3, 5, 4, 5, 3, 8, 4, 40, 40};
        for (int i = 0; i < texts.length; i++) {
            BluesAndGreens x = new BluesAndGreens();
            due("quarrels() of " + texts[i], quarrels(x, texts[i]), -1 - places[i]);
            due("QUARRELS", x.count(2), 0);
            due("signs of THE TEXT", x.count(11), 0);
        }
        BluesAndGreens x = new BluesAndGreens();
        due("quarrels() of nothing", quarrels(x, ""), 0);
        due("quarrels() of two", quarrels(x, TWO_QUARRELS), 2);
        due("quarrels() of seven more", quarrels(x, times("1234;", 6) + "1234"), -31);
        due("quarrels() of six more", quarrels(x, times("1234;", 5) + "9876"), 6);
        due("QUARRELS", x.count(2), 8);
        due("the last adds to green by side 1", x.quarrel(7, 3), 6);
    }

    private static void ruleTold() {
        String[] texts = {"z", "s+", "s<c<i", "s<c=i", "(s", "(((((s", "1000", "s)", "()", "s c", "ss", "1s", "s+*c", "*s", "s-", "-",
            "s<", "(s<c<1)", "((s)", "2~s", "~s", "s" + (char) 173 + "c", times("1+", 20) + "1", times("(((s)))+", 5) + "s",
            times("-", 41) + "s", "1<" + times("-", 39) + "s", "s<(c<i)<1", "((((s))))<((((c)))))"};
        int[] places = {0, 2, 3, 3, 2, 4, 3, 1, 1, 1, 1, 1, 2, 0, 2, 1, 2, 4, 4, 1, 0, 1, 40, 40, 40, 40, 7, 19};
        BluesAndGreens x = city();
        rule(x, "s*2");
        for (int i = 0; i < texts.length; i++) {
            due("rule() of " + texts[i], rule(x, texts[i]), -1 - places[i]);
            due("THE RULE is as it was", x.strength(0), 10);
            due("signs of THE TEXT", x.count(11), 0);
        }
        due("rule() of 40 signs", rule(x, "-" + times("1+", 19) + "1"), 0);
        due("STRENGTH by it", x.strength(0), 18);
        due("rule() of 40 signs", rule(x, times("-", 39) + "s"), 0);
        due("STRENGTH by it", x.strength(0), -5);
        due("rule() with four in one another", rule(x, "((((s))))+((((s))))"), 0);
        due("rule() of nothing", rule(x, ""), 0);
        due("STRENGTH without any", x.strength(0), 50);
    }

    private static void driverAsked() {
        BluesAndGreens x = city();
        x.curse(1, 0);
        x.race(2);
        int[] second = {7, 25, 1, 0, 2};
        for (int what = 0; what < 5; what++) {
            due("driver(2, " + what + ")", x.driver(2, what), second[what]);
        }
        due("driver(0, 3)", x.driver(0, 3), 1);
        none("driver(3, 0)", () -> x.driver(3, 0));
        none("driver(-1, 0)", () -> x.driver(-1, 0));
        none("driver(0, 5)", () -> x.driver(0, 5));
        none("driver(0, -1)", () -> x.driver(0, -1));
        none("driver(MAX, 0)", () -> x.driver(Integer.MAX_VALUE, 0));
        none("driver(0, 0) of none", () -> new BluesAndGreens().driver(0, 0));
    }

    private static void strengthAsked() {
        BluesAndGreens x = city("520b;330g;725g", "", "0123");
        x.race(3);
        x.curse(1, 0);
        x.show(0, 1);
        // DRIVER 0: s 5, c 1, i 0, w 0, n 3, o 0, m 10, a 10 (3 RACES, 1 by the QUARREL)
        // DRIVER 2: s 7, c 0, i 2, w 3, n 3, o 1, m 12 (125), a 3
        String[] rules = {"s", "c", "i", "w", "n", "o", "m", "a", "2-3-4", "2-(3-4)", "7/2*2", "8/2/2", "8/(2/2)", "-7/2", "(0-7)/2",
            "5/0", "5/(c-c)", "--s", "---s", "2*-s", "-s*2", "s--s", "2+3*4", "(2+3)*4", "1+2<4", "1+2>3", "1+2=3", "s=5", "(s<6)+(s>6)",
            "(s<6)*10-c", "999*999*999*999", "(512*512*512*16)/-1", "007", "s<-1", "-(s-9)", "1-1=0", "s*10-c*15+(n+i)/3", "m*a/3"};
        int big = 999 * 999 * 999 * 999;
        int least = Integer.MIN_VALUE;
        int[] first = {5, 1, 0, 0, 3, 0, 10, 10, -5, 3, 6, 2, 8, -3, -3, 0, 0, 5, -5, -10, -10, 10, 14, 20, 1, 0, 1, 1, 1,
            9, big, least, 7, 0, 4, 1, 36, 33};
        int[] third = {7, 0, 2, 3, 3, 1, 12, 3, -5, 3, 6, 2, 8, -3, -3, 0, 0, 7, -7, -14, -14, 14, 14, 20, 1, 0, 1, 0, 1,
            0, big, least, 7, 0, 2, 1, 71, 12};
        for (int i = 0; i < rules.length; i++) {
            due("rule() of " + rules[i], rule(x, rules[i]), 0);
            due("strength(0) by " + rules[i], x.strength(0), first[i]);
            due("strength(2) by " + rules[i], x.strength(2), third[i]);
        }
        rule(x, "n");
        x.race(6);
        due("n behind 9 RACES", x.strength(0), 1);
        none("strength(3)", () -> x.strength(3));
        none("strength(-1)", () -> x.strength(-1));
    }

    private static void quarterAsked() {
        BluesAndGreens x = city();
        int[] second = {20, 1, 1, 6};
        for (int what = 0; what < 4; what++) {
            due("quarter(1, " + what + ")", x.quarter(1, what), second[what]);
        }
        due("GATES of one without", x.quarter(3, 3), 0);
        none("quarter(4, 0)", () -> x.quarter(4, 0));
        none("quarter(-1, 0)", () -> x.quarter(-1, 0));
        none("quarter(0, 4)", () -> x.quarter(0, 4));
        none("quarter(0, -1)", () -> x.quarter(0, -1));
    }

    private static void quarrelAsked() {
        BluesAndGreens x = city("", "", "1234;5678");
        x.show(1, 0);
        for (int what = 0; what < 4; what++) {
            due("quarrel(1, " + what + ")", x.quarrel(1, what), 5 + what);
        }
        due("quarrel(0, 4)", x.quarrel(0, 4), NONE);
        due("quarrel(1, 4)", x.quarrel(1, 4), 0);
        x.show(0, 1);
        due("quarrel(0, 4)", x.quarrel(0, 4), 1);
        none("quarrel(2, 0)", () -> x.quarrel(2, 0));
        none("quarrel(-1, 0)", () -> x.quarrel(-1, 0));
        none("quarrel(0, 5)", () -> x.quarrel(0, 5));
        none("quarrel(0, -1)", () -> x.quarrel(0, -1));
    }

    private static void clubAsked() {
        BluesAndGreens x = city();
        x.race(2);
        int[][] all = {{100, 6, 0, 1, 5, 39}, {120, 0, 2, 6, 10, 70}};
        for (int i = 0; i < 12; i++) {
            due("club(" + i / 6 + ", " + i % 6 + ")", x.club(i / 6, i % 6), all[i / 6][i % 6]);
        }
        x.buy(0, 2);
        due("DRIVERS of blue, who bought one", x.club(0, 3), 5);
        none("club(2, 0)", () -> x.club(2, 0));
        none("club(-1, 0)", () -> x.club(-1, 0));
        none("club(0, 6)", () -> x.club(0, 6));
        none("club(0, -1)", () -> x.club(0, -1));
    }

    private static void limitSet() {
        BluesAndGreens x = city("", "", "5050");
        due("limit(1)", x.limit(1), 20);
        due("limit(99)", x.limit(99), 1);
        due("limit(0)", x.limit(0), NONE);
        due("limit(100)", x.limit(100), NONE);
        due("limit(MIN)", x.limit(Integer.MIN_VALUE), NONE);
        due("LIMIT", x.count(3), 99);
        x.show(0, 0);
        x.limit(5);
        due("they JOIN at LIMIT", x.count(5), 1);
        x.limit(6);
        due("they don't below", x.count(5), 0);
    }

    private static void sheetTold() {
        BluesAndGreens x = city();
        due("ints 5, 205", x.sheet(2, 2, 5, 200), 104);
        int[] prices = {5, 99, 0};
        for (int i = 0; i < 3; i++) {
            due("driver(" + i + ", 1)", x.driver(i, 1), prices[i]);
        }
        due("bytes 120, 130, 140", x.sheet(0, 3, 120, 10), 99);
        due("bytes 250", x.sheet(0, 1, 250, 0), 0);
        due("bytes 300, 310, 320", x.sheet(0, 3, 300, 10), 44 + 54 + 64);
        due("shorts 300", x.sheet(1, 1, 300, 0), 99);
        due("shorts 65541, 65539", x.sheet(1, 2, 65541, -2), 8);
        due("shorts 32768", x.sheet(1, 1, 32768, 0), 0);
        due("ints 65541", x.sheet(2, 1, 65541, 0), 99);
        due("ints MAX, MIN, by 1", x.sheet(2, 2, Integer.MAX_VALUE, 1), 99);
        due("PRICE of MIN", x.driver(1, 1), 0);
        due("eight entries for three DRIVERS", x.sheet(2, 8, 1, 1), 6);
        due("n below 0", x.sheet(2, -1, 7, 7), -2);
        due("PRICES are as they were", x.driver(2, 1), 3);
        due("another kind", x.sheet(4, 1, 7, 7), NONE);
        due("another kind", x.sheet(-1, -1, 7, 7), NONE);
        due("n above 8", x.sheet(0, 9, 7, 7), NONE);
        due("a missing one with n above 8", x.sheet(3, 9, 7, 7), NONE);
        due("PRICES are as they were", x.driver(2, 1), 3);
        due("a missing one with n below 0", x.sheet(3, -1, 7, 7), -3);
        due("PRICES are 0", x.driver(2, 1), 0);
        due("no entries", x.sheet(1, 0, 7, 7), 0);
        due("one entry", x.sheet(0, 1, 7, 7), 7);
        due("no DRIVERS", new BluesAndGreens().sheet(2, 3, 5, 5), 0);
        x.buy(1, 0);
        x.sheet(2, 3, 9, 0);
        x.undo();
        due("PRICES are not undone", x.driver(0, 1), 9);
    }

    // ---- the season

    private static void race() {
        BluesAndGreens x = new BluesAndGreens();
        due("race(1) without DRIVERS", x.race(1), -2);
        due("race(-1) without DRIVERS", x.race(-1), -2);
        due("numbers of the ROW", x.count(10), 0);
        drivers(x, THREE_DRIVERS);
        quarrels(x, "0009;0000");
        due("race(-1)", x.race(-1), NONE);
        due("race(61)", x.race(61), NONE);
        due("race(0)", x.race(0), 0);
        rowIs("race(0)", x, NONE, 0);
        due("RACE", x.count(4), 0);
        due("race(1)", x.race(1), 0);
        rowIs("race(1)", x, 2, 0);
        int[][] clubs = {{100, 3, 0}, {110, 0, 1}};
        for (int i = 0; i < 6; i++) {
            due("club(" + i / 3 + ", " + i % 3 + ")", x.club(i / 3, i % 3), clubs[i / 3][i % 3]);
        }
        due("RACE", x.count(4), 1);
        due("WON of who won", x.driver(2, 4), 1);
        due("WON of who did not", x.driver(0, 4), 0);
        x.show(0, 1);
        x.limit(2);
        due("race(10)", x.race(10), 0);
        rowIs("race(10), green being at 8, 7, .. 0", x, 2, 7);
        x.curse(0, 2);
        x.curse(0, 1);
        x.buy(0, 2);
        due("race(1) of one who is CURSED and blue", x.race(1), 1);
        due("curses go on", x.count(6), 6);
        BluesAndGreens y = city("110g;110b", "", "");
        rule(y, "s");
        due("of equal ones the first wins", y.race(2), 0);
        for (int i = 0; i < 17; i++) {
            y.race(60);
        }
        due("MONEY at most", y.club(1, 0), 9999);
        due("ANGER at most", y.club(0, 1), 999);
        due("ANGER at least", y.club(1, 1), 0);
        due("WINS", y.club(1, 2), 1022);
        due("RACE", y.count(4), 1022);
    }

    private static void buy() {
        BluesAndGreens x = city("520b;330g;780g;410g", "", "");
        due("buy(0, 2)", x.buy(0, 2), 20);
        due("MONEY of the other one", x.club(1, 0), 180);
        due("the CLUB", x.driver(2, 2), 0);
        due("buy(0, 2), its own", x.buy(0, 2), -2);
        due("buy(0, 1), too dear", x.buy(0, 1), -3);
        due("buy(0, 4)", x.buy(0, 4), NONE);
        due("buy(0, -1)", x.buy(0, -1), NONE);
        due("buy(2, 0)", x.buy(2, 0), NONE);
        due("buy(-1, 0)", x.buy(-1, 0), NONE);
        due("what can be undone", x.count(9), 1);
        x.sheet(2, 4, 20, 0);
        due("buy(0, 1) for all that it has", x.buy(0, 1), 0);
        x.sheet(2, 4, 0, 0);
        due("buy(0, 3) for nothing", x.buy(0, 3), 0);
        for (int i = 0; i < 18; i++) {
            x.race(60);
        }
        due("MONEY of blue is the most", x.club(0, 0), 9999);
        x.sheet(2, 4, 50, 0);
        due("buy(1, 0)", x.buy(1, 0), 150);
        due("MONEY of the other one, at most", x.club(0, 0), 9999);
    }

    private static void curse() {
        BluesAndGreens x = city("520b;396g;780g", "", "");
        due("curse(0, 1)", x.curse(0, 1), 95);
        due("CURSED", x.driver(1, 3), 1);
        due("curse(0, 1) again", x.curse(0, 1), -3);
        due("curse(0, 0), its own", x.curse(0, 0), -2);
        due("curse(1, 1), its own and CURSED", x.curse(1, 1), -2);
        due("curse(0, 3)", x.curse(0, 3), NONE);
        due("curse(0, -1)", x.curse(0, -1), NONE);
        due("curse(2, 0)", x.curse(2, 0), NONE);
        due("curse(-1, 0)", x.curse(-1, 0), NONE);
        x.sheet(2, 3, 90, 0);
        x.buy(0, 1);
        due("curse(0, 2) for all that it has", x.curse(0, 2), 0);
        due("the CURSED one stays so", x.count(6), 6);
        BluesAndGreens y = city("520b;396g;780g", "", "");
        y.buy(0, 1);
        due("curse(0, 2) with 4", y.curse(0, 2), -4);
        due("CURSED ones", y.count(6), 0);
        y.curse(1, 0);
        y.buy(1, 0);
        due("curse(0, 0), who is CURSED, with 4 and 20", y.curse(0, 0), -3);
    }

    private static void dig() {
        BluesAndGreens x = city("520b;397g;798g", "", "");
        x.curse(1, 0);
        due("dig(0)", x.dig(0), 97);
        due("CURSED", x.driver(0, 3), 0);
        due("dig(0) again", x.dig(0), -2);
        due("dig(3)", x.dig(3), NONE);
        due("dig(-1)", x.dig(-1), NONE);
        x.curse(1, 0);
        x.sheet(2, 3, 94, 0);
        x.buy(0, 1);
        due("dig(0) for all that it has", x.dig(0), 0);
        x.curse(1, 0);
        due("dig(0) for too much", x.dig(0), -3);
        due("CURSED", x.driver(0, 3), 1);
        x.undo();
        x.curse(1, 1);
        due("what the CLUB is now pays", x.dig(1), -3);
    }

    private static void grain() {
        BluesAndGreens x = city("", "", "9999;9999");
        x.show(0, 0);
        x.show(1, 0);
        due("grain(0, 1)", x.grain(0, 1), 17);
        due("grain(1, 10)", x.grain(1, 10), 8);
        due("grain(1, 99)", x.grain(1, 99), 0);
        due("ANGER of blue", x.club(0, 1), 17);
        due("grain(0, 0)", x.grain(0, 0), NONE);
        due("grain(0, 100)", x.grain(0, 100), NONE);
        due("grain(2, 1)", x.grain(2, 1), NONE);
        due("grain(-1, 1)", x.grain(-1, 1), NONE);
        due("grain(0, MIN)", x.grain(0, Integer.MIN_VALUE), NONE);
        due("what can be undone", x.count(9), 5);
    }

    private static void show() {
        BluesAndGreens x = city("110g", "", "1928;9990");
        due("show(0, 1)", x.show(0, 1), 0);
        due("ANGER of blue by side 1", x.club(0, 1), 9);
        due("ANGER of green by side 1", x.club(1, 1), 8);
        due("show(0, 0) again", x.show(0, 0), -2);
        due("show(0, 2)", x.show(0, 2), NONE);
        due("show(1, -1)", x.show(1, -1), NONE);
        due("show(2, 0)", x.show(2, 0), NONE);
        due("show(-1, 0)", x.show(-1, 0), NONE);
        x.limit(17);
        due("show(1, 0), then they JOIN", x.show(1, 0), 1);
        due("QUARRELS shown", x.count(7), 3);
        x.undo();
        for (int i = 0; i < 6; i++) {
            x.race(60);
        }
        x.show(1, 0);
        due("ANGER at most", x.club(0, 1), 999);
        due("ANGER of green", x.club(1, 1), 9);
    }

    private static void seasonTold() {
        String[] texts = {"x", "r", "rx", "b", "b2", "b0", "b0x", "s", "sx", "s0", "s02", "d", "dx", "g", "g2", "g0", "g0x", "c", "c20",
            "r1;", "r1r", "r1 ", "r1x", times("r0", 31), times("r0", 30) + "x", times("r0", 29) + "b0" + "x1", times("b00", 20) + "r"};
        int[] places = {0, 1, 1, 1, 1, 2, 2, 1, 1, 2, 2, 1, 1, 1, 1, 2, 2, 1, 1, 2, 3, 2, 2, 60, 60, 60, 60};
        BluesAndGreens x = city();
        x.order();
        for (int i = 0; i < texts.length; i++) {
            due("season() of " + texts[i], season(x, texts[i]), -1 - places[i]);
            due("signs of THE TEXT", x.count(11), 0);
            due("RACE", x.count(4), 0);
        }
        rowIs("order(), no season being told", x, 2, 0, 1);
        due("season() of nothing", season(x, ""), 0);
        rowIs("season() of nothing", x, 0, 0);
        due("season() of 60 signs", season(x, times("r0", 29) + "r1"), 30);
        rowIs("season() of 60 signs", x, 0, 0);
        due("what can be undone", x.count(9), 1);
        due("undo()", x.undo(), 0);
        due("season() till one can't be", season(x, "b02r1c12d2g05s00s00r9"), 6);
        rowIs("season() till one can't be", x, 1, 0);
        due("RACE", x.count(4), 1);
        due("MONEY of blue", x.club(0, 0), 82);
        due("MONEY of green", x.club(1, 0), 120);
        due("ANGER of blue", x.club(0, 1), 5);
        due("ANGER of green", x.club(1, 1), 9);
        due("undo() of all of it", x.undo(), 0);
        due("MONEY of blue", x.club(0, 0), 100);
        due("CLUB of the DRIVER", x.driver(2, 2), 1);
        due("grain of 0 can't be", season(x, "g00r1"), 0);
        rowIs("grain of 0 can't be", x, 1, 0);
        due("what can be undone", x.count(9), 0);
        x.limit(1);
        due("season() by which they JOIN", season(x, "s01s10"), 2);
        rowIs("season() by which they JOIN", x, 0, 1);
        due("no DRIVERS", season(new BluesAndGreens(), "r0"), 0);
        BluesAndGreens y = city();
        due("r0 is done", season(y, "r0"), 1);
        due("what can be undone", y.count(9), 1);
    }

    private static void undo() {
        BluesAndGreens x = city();
        due("undo() of nothing", x.undo(), NONE);
        x.race(0);
        x.buy(0, 0);
        x.curse(0, 0);
        x.dig(0);
        x.grain(0, 0);
        x.show(0, 2);
        season(x, "");
        due("what was not done can't be undone", x.count(9), 0);
        x.curse(0, 1);
        x.dig(1);
        x.curse(1, 0);
        x.buy(0, 2);
        x.race(3);
        x.show(1, 0);
        x.grain(1, 1);
        season(x, "r1g11");
        due("what can be undone", x.count(9), 8);
        due("ANGER of green", x.club(1, 1), 14);
        due("undo() of season()", x.undo(), 7);
        due("ANGER of green", x.club(1, 1), 12);
        due("undo() of grain()", x.undo(), 6);
        due("ANGER of green", x.club(1, 1), 13);
        due("undo() of show()", x.undo(), 5);
        due("QUARRELS shown", x.count(7), 0);
        due("ANGER of green", x.club(1, 1), 9);
        due("WINS", x.club(0, 2), 3);
        due("undo() of race()", x.undo(), 4);
        due("WINS", x.club(0, 2), 0);
        due("WON", x.driver(2, 4), 0);
        due("RACE", x.count(4), 0);
        due("MONEY", x.club(0, 0), 70);
        due("ANGER", x.club(1, 1), 0);
        due("undo() of buy()", x.undo(), 3);
        due("MONEY", x.club(1, 0), 92);
        due("the CLUB", x.driver(2, 2), 1);
        due("undo() of curse()", x.undo(), 2);
        due("CURSED", x.count(6), 0);
        due("undo() of dig()", x.undo(), 1);
        due("CURSED", x.count(6), 2);
        due("undo() of curse()", x.undo(), 0);
        due("CURSED", x.count(6), 0);
        due("undo() of nothing", x.undo(), NONE);
        for (int i = 0; i < 14; i++) {
            x.race(1);
        }
        due("twelve are kept", x.count(9), 12);
        for (int i = 11; i >= 0; i--) {
            due("undo()", x.undo(), i);
        }
        due("RACE behind the two that are not kept", x.count(4), 2);
        due("undo() of no more", x.undo(), NONE);
        String[] texts = {"11b", "1b1", "1111"};
        for (int i = 0; i < 6; i++) {
            x.race(1);
            boolean told = i % 2 == 1;
            tell(x, told ? texts[i / 2] : i == 0 ? "" : "x");
            int answer = i / 2 == 0 ? x.drivers() : i / 2 == 1 ? x.quarters() : x.quarrels();
            due("what was told is kept", answer > 0, told);
            due("what can be undone", x.count(9), told ? 0 : 1);
        }
        x.keep(0);
        x.race(1);
        x.again(1);
        due("again() that is refused forgets nothing", x.count(9), 1);
        x.again(0);
        due("again() forgets", x.count(9), 0);
        x.race(1);
        x.limit(7);
        rule(x, "i");
        x.undo();
        due("LIMIT is not undone", x.count(3), 7);
        due("THE RULE is not undone", x.strength(1), 1);
    }

    // ---- who wins

    private static void order() {
        BluesAndGreens x = new BluesAndGreens();
        due("order() without DRIVERS", x.order(), -2);
        due("numbers of the ROW", x.count(10), 0);
        drivers(x, "520b;330g;725g;510g;120b;990g;301b;210g");
        // 50, 30, 70, 51, 11, 91, 32, 22
        due("order()", x.order(), 5);
        rowIs("order()", x, 5, 2, 3, 0, 6, 1, 7, 4);
        rule(x, "0-(i/3)");
        due("order() of equal ones", x.order(), 0);
        rowIs("order() of equal ones", x, 0, 1, 2, 3, 4, 5, 6, 7);
        rule(x, "i>3");
        due("order() of equal ones", x.order(), 4);
        rowIs("order() of equal ones", x, 4, 5, 6, 7, 0, 1, 2, 3);
        rule(x, "0-5-i");
        due("order() below 0", x.order(), 0);
        due("RACE", x.count(4), 0);
    }

    private static void ahead() {
        BluesAndGreens x = new BluesAndGreens();
        due("ahead(1) without DRIVERS", x.ahead(1), -2);
        due("ahead(-1) without DRIVERS", x.ahead(-1), -2);
        drivers(x, "510b;510g");
        rule(x, "n/4=i");
        due("ahead(10)", x.ahead(10), 6);
        rowIs("ahead(10)", x, 4, 4, 0);
        due("ahead(0)", x.ahead(0), 0);
        rowIs("ahead(0)", x, 0, 0, 0);
        due("ahead(6)", x.ahead(6), 4);
        rowIs("ahead(6)", x, 4, 2, 0);
        due("ahead(99)", x.ahead(99), 51);
        due("ahead(100)", x.ahead(100), NONE);
        due("ahead(-1)", x.ahead(-1), NONE);
        // ANGER: 0 3, 0 6, 0 9, 0 12, 3 11, 6 10, 9 9, 12 8, 11 11, 10 14
        x.limit(9);
        due("ahead(10)", x.ahead(10), 6);
        rowIs("ahead(10), by LIMIT 9", x, 4, 4, 3);
        due("RACE", x.count(4), 0);
        x.race(3);
        due("ahead(3)", x.ahead(3), 1);
        rowIs("ahead(3)", x, 1, 2, 0);
        due("RACE", x.count(4), 3);
        due("MONEY", x.club(0, 0), 130);
    }

    private static void joins() {
        BluesAndGreens x = city("", "", "9393");
        due("joins() without DRIVERS", x.joins(), -2);
        x.show(0, 1);
        x.limit(3);
        due("joins() now, without DRIVERS", x.joins(), 0);
        rowIs("joins() now", x, 3, 3);
        BluesAndGreens y = city("510b;510g", "", "");
        rule(y, "n/4=i");
        y.limit(9);
        due("joins()", y.joins(), 7);
        rowIs("joins()", y, 9, 9);
        due("RACE", y.count(4), 0);
        // by turns: behind 98 RACES 99 98, behind 99 98 101
        rule(y, "n-n/2*2=i");
        y.limit(98);
        due("joins() in 98", y.joins(), 98);
        rowIs("joins() in 98", y, 99, 98);
        y.limit(99);
        due("joins() not in 99", y.joins(), -2);
        rowIs("joins() not in 99, the ROW is as it was", y, 99, 98);
        quarrels(y, "2000");
        y.show(0, 0);
        due("joins() in 99", y.joins(), 99);
        rowIs("joins() in 99", y, 99, 101);
        rule(y, "i");
        due("joins() never", y.joins(), -2);
    }

    private static void bribe() {
        BluesAndGreens x = city("110b;920g;920g", "", "");
        due("bribe(2)", x.bribe(2), NONE);
        due("bribe(-1)", x.bribe(-1), NONE);
        due("bribe(0)", x.bribe(0), 20);
        rowIs("bribe(0)", x, 1);
        due("bribe(1), which wins as it is", x.bribe(1), 0);
        rowIs("bribe(1)", x, NONE);
        due("MONEY", x.club(0, 0), 100);
        due("the CLUB", x.driver(1, 2), 1);
        BluesAndGreens y = city("920g;915g;915g", "", "");
        rule(y, "1-o");
        due("bribe(0), of as cheap ones the first", y.bribe(0), 15);
        rowIs("bribe(0)", y, 1);
        y.sheet(2, 3, 0, 0);
        due("bribe(0) for nothing", y.bribe(0), 0);
        rowIs("bribe(0) for nothing", y, 0);
        BluesAndGreens z = city("999g;199g", "", "");
        z.buy(0, 1);
        z.order();
        due("bribe(0) with too little", z.bribe(0), -2);
        rowIs("order(), the ROW being as it was", z, 0, 1);
        due("bribe(0) without DRIVERS", new BluesAndGreens().bribe(0), -2);
        BluesAndGreens all = city("595g;110b", "", "");
        all.curse(0, 0);
        due("bribe(0) for all that it has", all.bribe(0), 95);
        BluesAndGreens m = city("150g;150g;150b", "", "");
        rule(m, "m");
        due("bribe(0): MONEY is paid, and counts", m.bribe(0), -2);
    }

    private static void lead() {
        BluesAndGreens x = city("220g;210g;110b;130g", "", "");
        // 20, 20, 10, 11 and 15 less if CURSED
        due("lead(2)", x.lead(2), NONE);
        due("lead(-1)", x.lead(-1), NONE);
        due("lead(1), which wins as it is", x.lead(1), 0);
        rowIs("lead(1)", x, 0);
        due("lead(0)", x.lead(0), 3);
        rowIs("lead(0)", x, 11);
        x.curse(0, 1);
        due("lead(0), one being CURSED", x.lead(0), 2);
        rowIs("lead(0), one being CURSED", x, 9);
        due("CURSED", x.count(6), 2);
        due("MONEY", x.club(0, 0), 95);
        rule(x, "o*5-i-c*9");
        // 5, -5 as CURSED, -2 blue, 2
        due("lead(0), by another rule", x.lead(0), 2);
        rule(x, "(c+o)*(i=3)");
        due("lead(0) of what curses help", x.lead(0), -2);
        BluesAndGreens y = city("296g;296g;110b", "", "");
        y.buy(0, 0);
        due("lead(0), which wins as it is", y.lead(0), 0);
        y.sheet(2, 3, 10, 0);
        y.buy(1, 0);
        due("MONEY", y.club(0, 0), 14);
        due("lead(0) for 10", y.lead(0), 2);
        rowIs("lead(0) for 10", y, 3);
        y.curse(0, 0);
        due("lead(0) for 5", y.lead(0), 1);
        y.undo();
        y.sheet(2, 3, 5, 0);
        y.buy(0, 0);
        y.sheet(2, 3, 0, 0);
        y.buy(1, 0);
        due("MONEY", y.club(0, 0), 9);
        due("lead(0) with too little", y.lead(0), -2);
        BluesAndGreens z = city("310g;210b;310b;310b", "", "");
        rule(z, "a*0+c");
        due("lead(1): a curse makes one win, who is not its own", z.lead(1), 0);
        rule(z, "0-o-i*c");
        due("lead(0)", z.lead(0), 0);
        due("lead(1): all three, of equal ones the first being its own", z.lead(1), 3);
        due("lead(0) without DRIVERS", new BluesAndGreens().lead(0), -2);
        BluesAndGreens all = city(times("165g;", 7) + "110b", "", "");
        rule(all, "s-c");
        all.buy(0, 0);
        all.sheet(2, 0, 0, 0);
        all.buy(1, 0);
        due("MONEY", all.club(0, 0), 35);
        due("lead(0) by seven, for all that it has", all.lead(0), 7);
        rowIs("lead(0) by seven", all, 127);
        all.sheet(2, 1, 1, 0);
        all.buy(0, 0);
        all.sheet(2, 0, 0, 0);
        all.buy(1, 0);
        due("lead(0) with 1 too little", all.lead(0), -2);
        BluesAndGreens w = city("510g;510b;510b", "", "");
        rule(w, "(o*2+m)*(c<1)");
        due("lead(1) of MONEY that goes on being enough", w.lead(1), 0);
        rule(w, "m+(o<1)-c*3");
        due("lead(1): both, by whom 10 of MONEY is paid", w.lead(1), 2);
        rowIs("lead(1)", w, 6);
    }

    private static void stable() {
        BluesAndGreens x = city("560g;540g;450g;999g;920b", "", "");
        due("stable(2)", x.stable(2), NONE);
        due("stable(-1)", x.stable(-1), NONE);
        due("stable(0)", x.stable(0), 10);
        rowIs("stable(0)", x, 3, 100);
        due("stable(1)", x.stable(1), 9);
        rowIs("stable(1)", x, 16, 20);
        x.sheet(2, 5, 40, 0);
        due("stable(0), by like PRICES", x.stable(0), 14);
        rowIs("stable(0): of as cheap ones the least bits", x, 9, 80);
        x.sheet(2, 5, 60, -10);
        // 60, 50, 40, 30, 20
        due("stable(0): 9 and 5", x.stable(0), 14);
        rowIs("stable(0): the cheapest", x, 10, 80);
        due("no DRIVERS", new BluesAndGreens().stable(0), 0);
        BluesAndGreens y = city("599g;610b", "", "");
        y.buy(1, 1);
        y.buy(0, 0);
        y.buy(1, 0);
        y.curse(0, 0);
        y.curse(0, 1);
        due("MONEY", y.club(0, 0), 100);
        due("stable(0)", y.stable(0), 6);
        rowIs("stable(0)", y, 2, 10);
    }

    // ---- quarrels

    private static void apart() {
        BluesAndGreens x = city("", "", TWO_QUARRELS);
        due("apart()", x.apart(), 0);
        rowIs("apart()", x, 5, 10);
        x.limit(5);
        due("apart() by LIMIT 5", x.apart(), 1);
        rowIs("apart() by LIMIT 5", x, 1, 7);
        due("nothing was shown", x.count(7), 0);
        x.limit(1);
        x.order();
        due("apart() by none", x.apart(), -2);
        rowIs("apart(): the ROW is as it was", x, 1, 7);
        x.show(0, 0);
        x.show(1, 0);
        due("they JOIN", x.count(5), 1);
        due("apart() of no QUARRELS", x.apart(), 0);
        rowIs("apart() of no QUARRELS", x, 5, 10);
        BluesAndGreens y = city("", "", "0505;9090;5050");
        y.show(1, 0);
        y.limit(10);
        // ANGER 9 9: QUARREL 0 by side 1 or QUARREL 2 by side 0 makes both 14
        due("apart(): bits are numbers of QUARRELS", y.apart(), 4);
        rowIs("apart()", y, 9, 9);
    }

    private static void calm() {
        BluesAndGreens x = city("", "", TWO_QUARRELS);
        due("calm()", x.calm(), 1);
        rowIs("calm()", x, 1, 7);
        x.show(1, 1);
        // ANGER 9 0; QUARREL 0: 14 6 or 10 3
        due("calm() of one", x.calm(), 1);
        rowIs("calm() of one", x, 3, 10);
        x.show(0, 0);
        due("calm() of none", x.calm(), 0);
        rowIs("calm() of none", x, 6, 14);
        BluesAndGreens y = city("", "", "2275;1111");
        due("calm(): of as little ones the least greater, then the least bits", y.calm(), 1);
        rowIs("calm()", y, 3, 6);
    }

    private static void risky() {
        BluesAndGreens x = city("", "", "5163;0940;0000");
        x.limit(5);
        due("risky()", x.risky(), 4);
        rowIs("risky()", x, 7);
        x.show(2, 1);
        due("risky()", x.risky(), 2);
        rowIs("risky()", x, 3);
        x.show(0, 0);
        due("risky(), as they JOIN", x.risky(), 2);
        rowIs("risky()", x, 2);
        x.show(1, 0);
        due("risky() of none, as they JOIN", x.risky(), 0);
        rowIs("risky() of none", x, 0);
    }

    private static void worst() {
        BluesAndGreens x = city("", "", "1922;5566;6655;0909");
        // by sides: 1 2; 5 5 (5 6); 5 5; 0 9
        due("worst()", x.worst(), 3);
        rowIs("worst()", x, 9, 1);
        x.show(3, 0);
        due("worst()", x.worst(), 1);
        rowIs("worst(), of like ones 0", x, 5, 0);
        x.show(1, 1);
        x.show(2, 0);
        // ANGER 11 11; QUARREL 0: 12 13 or 20 13
        due("worst()", x.worst(), 0);
        rowIs("worst()", x, 2, 1);
        x.show(0, 0);
        x.order();
        due("worst() of none", x.worst(), -2);
        rowIs("worst(): the ROW is as it was", x, 2, 1);
        BluesAndGreens y = city("", "", "0000;9900;0900");
        y.show(1, 0);
        // ANGER 9 0: nothing adds to the lesser one
        due("worst() of what adds nothing", y.worst(), 0);
        rowIs("worst() of what adds nothing", y, 0, 0);
    }

    // ---- riots

    private static void riots() {
        BluesAndGreens x = city("", "10b1;20g1;30b3;40g9;5b2", "");
        due("riots(0)", x.riots(0), 0);
        rowIs("riots(0)", x, 0, 0);
        due("riots(1)", x.riots(1), 23);
        rowIs("riots(1)", x, 4, 65);
        due("riots(8)", x.riots(8), 31);
        due("riots(4)", x.riots(4), 23);
        due("riots(32)", x.riots(32), NONE);
        due("riots(-1)", x.riots(-1), NONE);
        due("riots(MIN)", x.riots(Integer.MIN_VALUE), NONE);
        BluesAndGreens y = city("", "10b0;20g2;30b2", "");
        due("those with NEED 0 riot", y.riots(0), 1);
        rowIs("those with NEED 0 riot", y, 1, 10);
        due("others are counted, not itself", y.riots(2), 7);
        due("no QUARTERS", new BluesAndGreens().riots(0), 0);
        due("no QUARTERS", new BluesAndGreens().riots(1), NONE);
    }

    private static void spark() {
        BluesAndGreens x = city("", "10b1;20g1;30b3;40g9;5b2", "");
        due("spark()", x.spark(), 1);
        rowIs("spark()", x, 8);
        BluesAndGreens y = city("", "1b2;1b2;1b9;1b2", "");
        due("spark()", y.spark(), 2);
        rowIs("spark(): of as few the least", y, 5);
        BluesAndGreens z = city("", "1b9;1b9", "");
        due("spark() of all", z.spark(), 2);
        rowIs("spark() of all", z, 3);
        BluesAndGreens w = city("", "1b1;1b0", "");
        due("spark() by itself", w.spark(), 0);
        rowIs("spark() by itself", w, 0);
        due("no QUARTERS", new BluesAndGreens().spark(), 0);
    }

    private static void won() {
        BluesAndGreens x = city("", "10b0;20g1;30b2;40g3", "");
        due("won(0, 4)", x.won(0, 4), 0);
        rowIs("won(0, 4)", x, 0);
        due("won(0, 0)", x.won(0, 0), 1);
        rowIs("won(0, 0)", x, 1);
        due("won(0, 1)", x.won(0, 1), 1);
        rowIs("won(0, 1)", x, 1);
        due("won(8, 1)", x.won(8, 1), 2);
        rowIs("won(8, 1)", x, 3);
        due("won(8, 3)", x.won(8, 3), 1);
        rowIs("won(8, 3)", x, 1);
        due("won(15, 0)", x.won(15, 0), 4);
        rowIs("won(15, 0)", x, 15);
        due("won(15, 3)", x.won(15, 3), 1);
        rowIs("won(15, 3)", x, 1);
        due("won(0, 8)", x.won(0, 8), 0);
        due("won(0, 9)", x.won(0, 9), NONE);
        due("won(0, -1)", x.won(0, -1), NONE);
        due("won(16, 0)", x.won(16, 0), NONE);
        due("won(-1, 0)", x.won(-1, 0), NONE);
        due("no QUARTERS", new BluesAndGreens().won(0, 0), 0);
    }

    private static void gates() {
        BluesAndGreens x = city("", "30b0ab;20g1bc;9b2c;50g3;30g0di", "");
        due("gates(31, 0)", x.gates(31, 0), 50);
        rowIs("gates(31, 0)", x, 0, 8);
        due("gates(31, 1)", x.gates(31, 1), 59);
        rowIs("gates(31, 1)", x, 4, 12);
        due("gates(31, 2)", x.gates(31, 2), 80);
        rowIs("gates(31, 2), of as much the least", x, 3, 9);
        due("gates(31, 9)", x.gates(31, 9), 139);
        rowIs("gates(31, 9), the fewest", x, 271, 31);
        due("gates(16, 1)", x.gates(16, 1), 0);
        rowIs("gates(16, 1)", x, 0, 0);
        due("gates(18, 2)", x.gates(18, 2), 30);
        rowIs("gates(18, 2)", x, 264, 16);
        due("gates(0, 9)", x.gates(0, 9), 0);
        due("gates(32, 1)", x.gates(32, 1), NONE);
        due("gates(-1, 1)", x.gates(-1, 1), NONE);
        due("gates(1, 10)", x.gates(1, 10), NONE);
        due("gates(1, -1)", x.gates(1, -1), NONE);
    }

    private static void common() {
        BluesAndGreens x = city("", FOUR_QUARTERS, "");
        due("common(3)", x.common(3), 2);
        rowIs("common(3)", x, 7);
        due("common(6)", x.common(6), 4);
        rowIs("common(6)", x, 6);
        due("common(8)", x.common(8), 0);
        rowIs("common(8)", x, 0);
        due("common(0)", x.common(0), 511);
        rowIs("common(0)", x, 0);
        due("common(16)", x.common(16), NONE);
        due("common(-1)", x.common(-1), NONE);
        rowIs("common(-1): the ROW is as it was", x, 0);
    }

    // ---- lots

    private static void lots() {
        BluesAndGreens x = new BluesAndGreens();
        due("lots(3, 2, 5)", x.lots(3, 2, 5), 0);
        rowIs("lots(3, 2, 5)", x, 3, 8);
        x.lots(4, 1, 2);
        rowIs("lots(4, 1, 2)", x, 256, 625);
        x.lots(12, 6, 5);
        rowIs("lots(12, 6, 5)", x, 231, 1024);
        x.lots(12, 12, 1);
        rowIs("lots(12, 12, 1)", x, 1, 1000000000000L);
        x.lots(5, 0, 0);
        rowIs("lots(5, 0, 0)", x, 1, 1);
        x.lots(5, 1, 0);
        rowIs("lots(5, 1, 0)", x, 0, 1);
        x.lots(5, 4, 10);
        rowIs("lots(5, 4, 10)", x, 0, 1);
        due("lots(2, 12, 5)", x.lots(2, 12, 5), 0);
        rowIs("lots(2, 12, 5)", x, 0, 1);
        int[][] others = {{0, 0, 5}, {13, 1, 5}, {1, -1, 5}, {1, 13, 5}, {1, 1, -1}, {1, 1, 11}, {-1, 0, 0}};
        for (int[] o : others) {
            due("lots(" + o[0] + ", " + o[1] + ", " + o[2] + ")", x.lots(o[0], o[1], o[2]), NONE);
        }
        rowIs("the ROW is as it was", x, 0, 1);
    }

    private static void bent() {
        BluesAndGreens x = new BluesAndGreens();
        due("bent(5, 10, 1, 1)", x.bent(5, 10, 1, 1), 0);
        rowIs("bent(5, 10, 1, 1)", x, 2, 3);
        x.bent(1, 8, 3, 2);
        // 1 * 8 * 8 * 2 = 128 by 128 + 9 * 125
        rowIs("bent(1, 8, 3, 2)", x, 128, 1253);
        x.bent(3, 7, 0, 0);
        rowIs("bent(3, 7, 0, 0)", x, 3, 10);
        x.bent(10, 3, 10, 4);
        rowIs("bent(10, 3, 10, 4)", x, 1, 1);
        x.bent(5, 0, 1, 1);
        rowIs("bent(5, 0, 1, 1)", x, 0, 1);
        x.bent(0, 7, 10, 10);
        rowIs("bent(0, 7, 10, 10)", x, 0, 1);
        due("bent(10, 0, 1, 1)", x.bent(10, 0, 1, 1), -2);
        due("bent(10, 10, 10, 9)", x.bent(10, 10, 10, 9), -2);
        int[][] others = {{-1, 5, 1, 1}, {11, 5, 1, 1}, {5, -1, 1, 1}, {5, 11, 1, 1}, {5, 5, -1, 0}, {5, 5, 11, 1}, {5, 5, 2, 3}, {5, 5, 2, -1}};
        for (int[] o : others) {
            due("bent(" + o[0] + ", " + o[1] + ", " + o[2] + ", " + o[3] + ")", x.bent(o[0], o[1], o[2], o[3]), NONE);
        }
        rowIs("the ROW is as it was", x, 0, 1);
    }

    // ---- which she was

    private static void heard() {
        BluesAndGreens x = city("", FOUR_QUARTERS, "");
        int[][] told = {{0, 1}, {0, 0}, {1, 30}, {1, 31}, {2, 1}, {2, 0}, {3, 1}, {3, 8}, {4, 1}, {4, 8}, {1, 99}, {2, 9}};
        int[] fit = {5, 10, 9, 8, 3, 1, 3, 0, 12, 15, 0, 15};
        for (int i = 0; i < told.length; i++) {
            due("heard(" + told[i][0] + ", " + told[i][1] + ")", x.heard(told[i][0], told[i][1]), 1);
            due("fits()", x.fits(), fit[i]);
            x.forget();
        }
        int[][] others = {{0, 2}, {0, -1}, {1, 100}, {1, -1}, {2, 10}, {2, -1}, {3, 9}, {3, -1}, {4, 9}, {4, -1}, {5, 0}, {-1, 0}};
        for (int[] o : others) {
            due("heard(" + o[0] + ", " + o[1] + ")", x.heard(o[0], o[1]), NONE);
        }
        for (int i = 1; i <= 12; i++) {
            due("heard(1, 0)", x.heard(1, 0), i);
        }
        due("heard(1, 0) once more", x.heard(1, 0), NONE);
        due("what was heard", x.count(8), 12);
    }

    private static void forget() {
        BluesAndGreens x = city("", FOUR_QUARTERS, "");
        due("forget() of nothing", x.forget(), 0);
        x.heard(0, 1);
        x.heard(3, 2);
        due("forget()", x.forget(), 2);
        due("what was heard", x.count(8), 0);
        due("fits()", x.fits(), 15);
    }

    private static void fits() {
        BluesAndGreens x = city("", FOUR_QUARTERS, "");
        due("fits() of nothing heard", x.fits(), 15);
        rowIs("fits() of nothing heard", x, 4, 109);
        x.heard(3, 2);
        due("fits()", x.fits(), 6);
        rowIs("fits()", x, 2, 29);
        x.heard(0, 0);
        due("fits() of both", x.fits(), 2);
        rowIs("fits() of both", x, 1, 20);
        quarters(x, "7g0c");
        due("fits() of one that came then", x.fits(), 18);
        due("no QUARTERS", new BluesAndGreens().fits(), 0);
    }

    private static void ask() {
        BluesAndGreens x = city("", "1b1abi;1b1bi;1b1bci;1b1i", "");
        // a: 1 of 4, b: 3 of 4, c: 1 of 4, i: 4 of 4
        due("ask()", x.ask(), 0);
        rowIs("ask()", x, 3);
        quarters(x, "1g1c");
        // a 1, b 3, c 2, i 4, of 5
        due("ask()", x.ask(), 1);
        rowIs("ask()", x, 3);
        x.heard(3, 1);
        // left are 0, 1, 2: a 1, c 1
        due("ask()", x.ask(), 0);
        rowIs("ask()", x, 2);
        x.heard(4, 0);
        // left are 1, 2
        due("ask()", x.ask(), 2);
        rowIs("ask()", x, 1);
        x.heard(3, 7);
        due("ask() of none", x.ask(), -2);
        rowIs("ask(): the ROW is as it was", x, 1);
        due("no QUARTERS", new BluesAndGreens().ask(), -2);
        BluesAndGreens y = city("", times("1b1;", 7) + "1b1", "");
        due("ask() where nothing tells them apart", y.ask(), 0);
        rowIs("ask() where nothing tells them apart", y, 8);
    }

    // ---- bids, rules, years

    private static void rests() {
        BluesAndGreens x = new BluesAndGreens();
        due("rests(0, 0)", x.rests(0, 0), 19);
        rowIs("rests(0, 0)", x, 0, 0);
        // blue has him by all pairs of which x is as much or more; green for nothing alone, by 9 that blue would not pay
        due("rests(9, 0)", x.rests(9, 0), 56);
        rowIs("rests(9, 0)", x, 0, 0);
        // blue has him by 9, for 0 or 1; green by all pairs of which y is more
        due("rests(1, 9)", x.rests(1, 9), 47);
        rowIs("rests(1, 9)", x, 0, 1);
        due("rests(10, 0)", x.rests(10, 0), NONE);
        due("rests(0, 10)", x.rests(0, 10), NONE);
        due("rests(-1, 0)", x.rests(-1, 0), NONE);
        due("rests(0, -1)", x.rests(0, -1), NONE);
        for (int v = 0; v < 10; v++) {
            for (int u = 0; u < 10; u++) {
                due("rests(" + v + ", " + u + ")", x.rests(v, u), rests(v, u));
            }
        }
    }

    /** Pairs at rest by what each side must fear, not by trying bids. */
    private static int rests(int v, int u) {
        int pairs = 0;
        for (int x = 0; x < 10; x++) {
            for (int y = 0; y < 10; y++) {
                // who has him pays no more than he is worth; who has him not would pay as much or more than that
                boolean blue = x >= y && (v >= y) && (u <= x || x == 9);
                boolean green = y > x && (u >= x) && (v <= y);
                pairs += blue || green ? 1 : 0;
            }
        }
        return pairs;
    }

    private static void law() {
        BluesAndGreens x = new BluesAndGreens();
        due("law() of nothing, without DRIVERS", law(x, ""), -20000);
        due("law() of a rule, without DRIVERS", law(x, "i"), -20000);
        due("law() of none, without DRIVERS", law(x, "s+"), -10002);
        drivers(x, "510b;910g");
        due("law() of none", law(x, "+"), -10000);
        due("law() of too much", law(x, times("1+", 20) + "1"), -10040);
        due("signs of THE TEXT", x.count(11), 0);
        due("numbers of the ROW", x.count(10), 0);
        due("law() of nothing", law(x, ""), 0);
        rowIs("law() of nothing", x, 0, 0);
        due("law()", law(x, "9-s"), 20);
        rowIs("law()", x, 20, 0);
        due("RACE", x.count(4), 0);
        due("THE RULE is as it was", x.strength(1), 90);
        rule(x, "n/4=i");
        due("law(), below 0", law(x, "s"), -12);
        rowIs("law(), below 0", x, 0, 12);
        due("law() of nothing, THE RULE being another", law(x, ""), -12);
        x.race(4);
        due("law() from RACE 4 on", law(x, "1-i"), 12);
        rowIs("law() from RACE 4 on", x, 20, 8);
    }

    private static void years() {
        BluesAndGreens x = new BluesAndGreens();
        due("years(1, 1) without DRIVERS", x.years(1, 1), -2);
        due("years(1, 0) without DRIVERS", x.years(1, 0), -2);
        drivers(x, "130b;530g");
        quarrels(x, "9090");
        x.show(0, 0);
        x.limit(4);
        due("years(1, 0)", x.years(1, 0), NONE);
        due("years(1, 61)", x.years(1, 61), NONE);
        due("numbers of the ROW", x.count(10), 0);
        // R: 16838 (2: buy), 38526 (0: blue), 10113 (1: the DRIVER), 50283 (3: grain), 63819 (1: green)
        due("years(1, 1)", x.years(1, 1), 0);
        rowIs("years(1, 1)", x, 70, 130, 1);
        due("years(1, 2)", x.years(1, 2), 0);
        rowIs("years(1, 2)", x, 70, 130, 2);
        due("years(0, 1): R is 12345, 0: a RACE", x.years(0, 1), 0);
        rowIs("years(0, 1)", x, 100, 110, 1);
        due("years(-1, 60)", x.years(-1, 60), drawn(-1, 60)[0]);
        rowIs("years(-1, 60)", x, drawn(-1, 60)[1], drawn(-1, 60)[2], drawn(-1, 60)[3]);
        due("RACE", x.count(4), 0);
        due("MONEY", x.club(0, 0), 100);
        due("what can be undone", x.count(9), 1);
    }

    /** The years of the test above, done with calls of another object. */
    private static long[] drawn(int seed, int n) {
        BluesAndGreens x = city("130b;530g", "", "9090");
        x.show(0, 0);
        x.limit(4);
        long r = seed & 0xffffffffL;
        long[] all = new long[4];
        for (int i = 0; i < n; i++) {
            r = (r * 1103515245L + 12345) & 0xffffffffL;
            long what = r / 65536 % 4;
            if (what < 2) {
                all[0] += x.race(1);
            } else {
                r = (r * 1103515245L + 12345) & 0xffffffffL;
                int club = (int) (r / 65536 % 2);
                if (what == 2) {
                    r = (r * 1103515245L + 12345) & 0xffffffffL;
                    x.buy(club, (int) (r / 65536 % 2));
                } else {
                    x.grain(club, 5);
                }
            }
            all[3] += x.count(5);
        }
        all[1] = x.club(0, 0);
        all[2] = x.club(1, 0);
        return all;
    }

    // ---- kept

    private static void keepAndAgain() {
        BluesAndGreens x = city();
        due("keep(2)", x.keep(2), false);
        due("keep(-1)", x.keep(-1), false);
        due("again(0), nothing being kept", x.again(0), false);
        due("keep(0)", x.keep(0), true);
        x.buy(0, 2);
        x.curse(1, 0);
        x.race(2);
        x.show(0, 1);
        due("keep(1)", x.keep(1), true);
        x.race(5);
        x.dig(0);
        promise = 48;
        due("again(2)", x.again(2), false);
        due("again(-1)", x.again(-1), false);
        due("again(0)", x.again(0), true);
        int[][] first = {{100, 0, 0, 1}, {100, 0, 0, 6}};
        for (int i = 0; i < 8; i++) {
            due("club(" + i / 4 + ", " + i % 4 + ")", x.club(i / 4, i % 4), first[i / 4][i % 4]);
        }
        due("CURSED", x.count(6), 0);
        due("RACE", x.count(4), 0);
        due("QUARRELS shown", x.count(7), 0);
        due("WON", x.driver(2, 4), 0);
        due("again(1)", x.again(1), true);
        int[][] second = {{95, 1, 2, 5}, {120, 9, 0, 2}};
        for (int i = 0; i < 8; i++) {
            due("club(" + i / 4 + ", " + i % 4 + ")", x.club(i / 4, i % 4), second[i / 4][i % 4]);
        }
        due("CURSED", x.count(6), 1);
        due("RACE", x.count(4), 2);
        due("the side shown", x.quarrel(0, 4), 1);
        due("WON", x.driver(2, 4), 2);
        due("again(1) once more", x.again(1), true);
        String[] texts = {"11b", "1b1", "1111"};
        for (int i = 0; i < 3; i++) {
            x.keep(0);
            x.keep(1);
            tell(x, "");
            due("nothing comes", i == 0 ? x.drivers() : i == 1 ? x.quarters() : x.quarrels(), 0);
            tell(x, "x");
            due("nothing comes", i == 0 ? x.drivers() : i == 1 ? x.quarters() : x.quarrels(), -1);
            due("again(0)", x.again(0), true);
            tell(x, texts[i]);
            due("one comes", i == 0 ? x.drivers() : i == 1 ? x.quarters() : x.quarrels(), 1);
            due("again(0), one having come", x.again(0), false);
            due("again(1), one having come", x.again(1), false);
        }
    }

    private static void count() {
        BluesAndGreens x = city();
        x.limit(3);
        x.curse(0, 1);
        x.curse(0, 2);
        x.show(1, 0);
        x.race(4);
        x.heard(0, 1);
        x.ahead(3);
        x.sign(1);
        int[] counts = {3, 4, 2, 3, 4, 0, 6, 2, 1, 4, 3, 4};
        for (int i = 0; i < counts.length; i++) {
            due("count(" + i + ")", x.count(i), counts[i]);
        }
        x.show(0, 0);
        due("count(5)", x.count(5), 1);
        due("count(12)", x.count(12), NONE);
        due("count(-1)", x.count(-1), NONE);
        due("count(MIN)", x.count(Integer.MIN_VALUE), NONE);
    }

    private static void row() {
        BluesAndGreens x = city();
        none("row(0)", () -> x.row(0));
        x.order();
        due("row(2)", x.row(2), 1);
        none("row(3)", () -> x.row(3));
        none("row(-1)", () -> x.row(-1));
        x.ahead(100);
        x.bribe(2);
        x.gates(-1, 0);
        rowIs("order(), others being refused", x, 2, 0, 1);
        x.spark();
        none("row(1) behind a shorter ROW", () -> x.row(1));
    }

    public static void main(String[] args) {
        Runnable[] tests = {PromiseTests::newObject, PromiseTests::sign, PromiseTests::end, PromiseTests::driversTold,
            PromiseTests::quartersTold, PromiseTests::quarrelsTold, PromiseTests::ruleTold, PromiseTests::driverAsked,
            PromiseTests::strengthAsked, PromiseTests::quarterAsked, PromiseTests::quarrelAsked, PromiseTests::clubAsked,
            PromiseTests::limitSet, PromiseTests::sheetTold, PromiseTests::race, PromiseTests::buy, PromiseTests::curse,
            PromiseTests::dig, PromiseTests::grain, PromiseTests::show, PromiseTests::seasonTold, PromiseTests::undo,
            PromiseTests::order, PromiseTests::ahead, PromiseTests::joins, PromiseTests::bribe, PromiseTests::lead,
            PromiseTests::stable, PromiseTests::apart, PromiseTests::calm, PromiseTests::risky, PromiseTests::worst,
            PromiseTests::riots, PromiseTests::spark, PromiseTests::won, PromiseTests::gates, PromiseTests::common,
            PromiseTests::lots, PromiseTests::bent, PromiseTests::heard, PromiseTests::forget, PromiseTests::fits,
            PromiseTests::ask, PromiseTests::rests, PromiseTests::law, PromiseTests::years, PromiseTests::keepAndAgain,
            PromiseTests::count, PromiseTests::row};
        int number = 0;
        for (Runnable test : tests) {
            number = number == 47 ? 49 : number + 1;
            promise = number;
            test.run();
        }
        System.out.println(asked + " answers asked for, " + wrong + " not as due");
        if (wrong != 0) {
            System.exit(1);
        }
    }
}
