/** Edges of promises 38 (lots) to 50 (row). */
public final class ChanceEdgeTests extends Edges {
    // ---- lots

    private static void fraction(String what, BluesAndGreens x, long answer, long upper, long lower) {
        due(what, answer, 0);
        row(what, x, upper, lower);
    }

    private static void lots() {
        edge(38, "n lots (1 .. 12), just k (0 .. 12)", () -> {
            BluesAndGreens x = new BluesAndGreens();
            fraction("lots(1, 0, 5)", x, x.lots(1, 0, 5), 1, 2);
            fraction("lots(1, 1, 5)", x, x.lots(1, 1, 5), 1, 2);
            fraction("lots(12, 0, 5)", x, x.lots(12, 0, 5), 1, 4096);
            fraction("lots(12, 12, 5)", x, x.lots(12, 12, 5), 1, 4096);
            fraction("lots(12, 6, 5)", x, x.lots(12, 6, 5), 231, 1024);
            fraction("lots(12, 11, 9)", x, x.lots(12, 11, 9), 12 * 31381059609L / 4, 1000000000000L / 4);
        });
        edge(38, "just k: more than there are can't be", () -> {
            BluesAndGreens x = new BluesAndGreens();
            fraction("lots(1, 2, 5)", x, x.lots(1, 2, 5), 0, 1);
            fraction("lots(1, 12, 10)", x, x.lots(1, 12, 10), 0, 1);
            fraction("lots(11, 12, 10)", x, x.lots(11, 12, 10), 0, 1);
        });
        edge(38, "p tenths (0 .. 10)", () -> {
            BluesAndGreens x = new BluesAndGreens();
            fraction("lots(12, 0, 0)", x, x.lots(12, 0, 0), 1, 1);
            fraction("lots(12, 1, 0)", x, x.lots(12, 1, 0), 0, 1);
            fraction("lots(12, 12, 10)", x, x.lots(12, 12, 10), 1, 1);
            fraction("lots(12, 11, 10)", x, x.lots(12, 11, 10), 0, 1);
            fraction("lots(1, 1, 1)", x, x.lots(1, 1, 1), 1, 10);
            fraction("lots(1, 1, 9)", x, x.lots(1, 1, 9), 9, 10);
            fraction("lots(12, 12, 1)", x, x.lots(12, 12, 1), 1, 1000000000000L);
            fraction("lots(12, 12, 9)", x, x.lots(12, 12, 9), 282429536481L, 1000000000000L);
        });
        edge(38, "the fraction in lowest terms", () -> {
            BluesAndGreens x = new BluesAndGreens();
            fraction("lots(2, 1, 5)", x, x.lots(2, 1, 5), 1, 2);
            fraction("lots(1, 1, 2)", x, x.lots(1, 1, 2), 1, 5);
            fraction("lots(2, 1, 3)", x, x.lots(2, 1, 3), 21, 50);
        });
        edge(38, "NONE: others", () -> {
            int[][] others = {{0, 0, 5}, {13, 0, 5}, {1, -1, 5}, {12, 13, 5}, {1, 0, -1}, {1, 0, 11}, {MAX, 0, 5}, {MIN, 0, 5},
                {1, MAX, 5}, {1, MIN, 5}, {1, 0, MAX}, {1, 0, MIN}, {-1, 0, 5}};
            for (int[] o : others) {
                refused("lots(" + o[0] + ", " + o[1] + ", " + o[2] + ")", x -> x.lots(o[0], o[1], o[2]), NONE);
            }
        });
    }

    private static void bent() {
        edge(39, "bent by q tenths (0 .. 10)", () -> {
            BluesAndGreens x = new BluesAndGreens();
            fraction("bent(0, 5, 5, 2)", x, x.bent(0, 5, 5, 2), 0, 1);
            fraction("bent(1, 5, 5, 2)", x, x.bent(1, 5, 5, 2), 1, 10);
            fraction("bent(9, 5, 5, 2)", x, x.bent(9, 5, 5, 2), 9, 10);
            fraction("bent(10, 5, 5, 2)", x, x.bent(10, 5, 5, 2), 1, 1);
        });
        edge(39, "p tenths blue, 0 .. 10", () -> {
            BluesAndGreens x = new BluesAndGreens();
            fraction("bent(5, 0, 1, 0)", x, x.bent(5, 0, 1, 0), 2, 3);
            fraction("bent(5, 0, 1, 1)", x, x.bent(5, 0, 1, 1), 0, 1);
            fraction("bent(5, 10, 1, 1)", x, x.bent(5, 10, 1, 1), 2, 3);
            fraction("bent(5, 10, 1, 0)", x, x.bent(5, 10, 1, 0), 0, 1);
            fraction("bent(5, 10, 10, 10)", x, x.bent(5, 10, 10, 10), 1024, 1025);
            fraction("bent(5, 0, 10, 0)", x, x.bent(5, 0, 10, 0), 1024, 1025);
        });
        edge(39, "of n lots (0 .. 10) k (0 .. n)", () -> {
            BluesAndGreens x = new BluesAndGreens();
            fraction("bent(3, 0, 0, 0)", x, x.bent(3, 0, 0, 0), 3, 10);
            fraction("bent(10, 0, 0, 0)", x, x.bent(10, 0, 0, 0), 1, 1);
            fraction("bent(0, 0, 0, 0)", x, x.bent(0, 0, 0, 0), 0, 1);
            fraction("bent(5, 5, 10, 0)", x, x.bent(5, 5, 10, 0), 1, 2);
            fraction("bent(5, 5, 10, 10)", x, x.bent(5, 5, 10, 10), 1, 2);
            // 9^10 by 9^10 + 5^10
            fraction("bent(5, 9, 10, 10)", x, x.bent(5, 9, 10, 10), 3486784401L, 3496550026L);
        });
        edge(39, "-2: it can't be so", () -> {
            refused("bent(10, 0, 1, 1)", x -> x.bent(10, 0, 1, 1), -2);
            refused("bent(10, 0, 10, 10)", x -> x.bent(10, 0, 10, 10), -2);
            refused("bent(10, 10, 1, 0)", x -> x.bent(10, 10, 1, 0), -2);
            refused("bent(10, 10, 10, 9)", x -> x.bent(10, 10, 10, 9), -2);
            BluesAndGreens x = new BluesAndGreens();
            fraction("bent(10, 0, 10, 0), it can", x, x.bent(10, 0, 10, 0), 1, 1);
            fraction("bent(10, 10, 10, 10), it can", x, x.bent(10, 10, 10, 10), 1, 1);
            fraction("bent(10, 1, 10, 10), it can", x, x.bent(10, 1, 10, 10), 1, 1);
            fraction("bent(9, 0, 1, 1), it can, fairly", x, x.bent(9, 0, 1, 1), 0, 1);
        });
        edge(39, "NONE: others", () -> {
            int[][] others = {{-1, 5, 1, 1}, {11, 5, 1, 1}, {5, -1, 1, 1}, {5, 11, 1, 1}, {5, 5, -1, 0}, {5, 5, 11, 0}, {5, 5, 1, 2}, {5, 5, 1, -1},
                {5, 5, 10, 11}, {5, 5, 0, 1}, {5, 5, -1, -1}, {MAX, 5, 1, 1}, {MIN, 5, 1, 1}, {5, MAX, 1, 1}, {5, 5, MAX, 1}, {5, 5, 1, MIN}};
            for (int[] o : others) {
                refused("bent(" + o[0] + ", " + o[1] + ", " + o[2] + ", " + o[3] + ")", x -> x.bent(o[0], o[1], o[2], o[3]), NONE);
            }
        });
    }

    // ---- which she was

    private static int fitting(BluesAndGreens x, int what, int v) {
        x.forget();
        due("heard(" + what + ", " + v + ")", x.heard(what, v), 1);
        return x.fits();
    }

    private static void heard() {
        edge(40, "what 0: it is blue (v 1) or not (0)", () -> {
            BluesAndGreens x = rich();
            due("v 1", fitting(x, 0, 1), 5);
            due("v 0", fitting(x, 0, 0), 10);
        });
        edge(40, "1: CROWD is v (0 .. 99) or more", () -> {
            BluesAndGreens x = city("", "1b0;98b0;99b0", "");
            int[][] due = {{0, 7}, {1, 7}, {2, 6}, {97, 6}, {98, 6}, {99, 4}};
            for (int[] d : due) {
                due("v " + d[0], fitting(x, 1, d[0]), d[1]);
            }
        });
        edge(40, "2: NEED is v (0 .. 9) or less", () -> {
            BluesAndGreens x = city("", "1b0;1b1;1b8;1b9", "");
            int[][] due = {{0, 1}, {1, 3}, {7, 3}, {8, 7}, {9, 15}};
            for (int[] d : due) {
                due("v " + d[0], fitting(x, 2, d[0]), d[1]);
            }
        });
        edge(40, "3: it has GATE v (0 .. 8); 4: it has not", () -> {
            BluesAndGreens x = city("", "1b0a;1b0i;1b0ai;1b0", "");
            int[][] due = {{0, 5, 10}, {1, 0, 15}, {7, 0, 15}, {8, 6, 9}};
            for (int[] d : due) {
                due("GATE " + d[0], fitting(x, 3, d[0]), d[1]);
                due("not GATE " + d[0], fitting(x, 4, d[0]), d[2]);
            }
        });
        edge(40, "Refused: others", () -> {
            int[][] others = {{0, 2}, {0, -1}, {1, 100}, {1, -1}, {2, 10}, {2, -1}, {3, 9}, {3, -1}, {4, 9}, {4, -1}, {5, 0}, {-1, 0}, {5, -1},
                {MAX, 0}, {MIN, 0}, {MAX, -1}, {0, MAX}, {1, MIN}, {3, 32}, {4, MAX}};
            for (int[] o : others) {
                refused("heard(" + o[0] + ", " + o[1] + ")", x -> x.heard(o[0], o[1]), NONE);
            }
        });
        edge(40, "Refused: 12", () -> {
            BluesAndGreens x = rich();
            for (int i = 2; i <= 12; i++) {
                due("heard()", x.heard(2, 9), i);
            }
            due("a thirteenth", x.heard(2, 0), NONE);
            due("what was heard", x.count(8), 12);
            due("the thirteenth is not heard", x.fits(), 3);
            due("forget()", x.forget(), 12);
            due("one more", x.heard(2, 0), 1);
        });
        edge(40, "it can be heard without QUARTERS, and of those that come", () -> {
            BluesAndGreens x = new BluesAndGreens();
            due("heard()", x.heard(3, 8), 1);
            due("fits()", x.fits(), 0);
            told(x, "1b0a;1b0i", BluesAndGreens::quarters);
            due("what was heard", x.count(8), 1);
            due("fits()", x.fits(), 2);
        });
        edge(41, "how many there were: none, and 12", () -> {
            BluesAndGreens x = new BluesAndGreens();
            due("none", x.forget(), 0);
            for (int i = 0; i < 12; i++) {
                x.heard(0, 0);
            }
            due("twelve", x.forget(), 12);
            due("none again", x.forget(), 0);
            due("what was heard", x.count(8), 0);
        });
        edge(41, "undo() and again() are none of it", () -> {
            BluesAndGreens x = rich();
            x.forget();
            x.undo();
            x.again(0);
            due("what was heard", x.count(8), 0);
        });
    }

    private static void fits() {
        edge(42, "nothing heard: all; no QUARTERS: none", () -> {
            BluesAndGreens x = city("", times("99b0;", 7) + "99b0", "");
            due("all eight", x.fits(), 255);
            row("all eight", x, 8, 792);
            BluesAndGreens y = new BluesAndGreens();
            due("no QUARTERS", y.fits(), 0);
            row("no QUARTERS", y, 0, 0);
        });
        edge(42, "that fit all that was heard", () -> {
            BluesAndGreens x = rich();
            due("GATE b", x.fits(), 3);
            row("GATE b", x, 2, 50);
            x.heard(1, 21);
            due("and CROWD of 21 or more", x.fits(), 1);
            row("and CROWD of 21 or more", x, 1, 30);
            x.heard(4, 1);
            due("and not GATE b", x.fits(), 0);
            row("and not GATE b", x, 0, 0);
        });
        edge(43, "-2: none fits", () -> {
            refused("no QUARTERS", Edges::poor, BluesAndGreens::ask, -2);
            refused("none of them", () -> {
                BluesAndGreens x = rich();
                x.heard(4, 1);
                return x;
            }, BluesAndGreens::ask, -2);
        });
        edge(43, "one that fits: of equal ones the first", () -> {
            BluesAndGreens x = city("", "1b0i", "");
            due("ask()", x.ask(), 0);
            row("ask()", x, 1);
        });
        edge(43, "the fewest such QUARTERS are left at most", () -> {
            // of four: a has 1, b 3, c 2, i 2
            BluesAndGreens x = city("", "1b0ab;1b0bc;1b0bci;1b0i", "");
            due("ask()", x.ask(), 2);
            row("ask()", x, 2);
            // of 0, 1, 2: a 1, b all, c 2, i 1
            x.heard(3, 1);
            due("ask()", x.ask(), 0);
            row("ask()", x, 2);
            BluesAndGreens y = city("", times("1b0i;", 4) + times("1b0;", 3) + "1b0", "");
            due("ask(), the ninth GATE", y.ask(), 8);
            row("ask(), the ninth GATE", y, 4);
            BluesAndGreens z = city("", times("1b0abcdefghi;", 3) + "1b0abcdefghi", "");
            due("ask(), all having all", z.ask(), 0);
            row("ask(), all having all", z, 4);
            BluesAndGreens w = city("", times("1b0;", 7) + "1b0", "");
            due("ask(), all eight having none", w.ask(), 0);
            row("ask(), all eight having none", w, 8);
        });
    }

    // ---- bids, rules, years

    private static void rests() {
        edge(44, "worth v (0 .. 9), u (0 .. 9)", () -> {
            BluesAndGreens x = new BluesAndGreens();
            // y 0 with any x; x 0 with any y that is more
            due("rests(0, 0)", x.rests(0, 0), 10 + 9);
            row("rests(0, 0)", x, 0, 0);
            // x 9 with any y; y 9 with any x that is less
            due("rests(9, 9)", x.rests(9, 9), 10 + 9);
            row("rests(9, 9)", x, 0, 9);
            // any x that is as much or more; 0 9
            due("rests(9, 0)", x.rests(9, 0), 55 + 1);
            row("rests(9, 0)", x, 0, 0);
            // any y that is more; 9 0
            due("rests(0, 9)", x.rests(0, 9), 45 + 1);
            row("rests(0, 9)", x, 0, 1);
        });
        edge(44, "of like bids blue has him", () -> {
            // 5 5: blue has 0, by another bid no more; green would have 0 by 6 or more
            BluesAndGreens x = new BluesAndGreens();
            // blue: y up to 5, x 5 or more; green: x up to 5, y 5 or more and more than x
            due("rests(5, 5)", x.rests(5, 5), 6 * 5 + 6 * 5 - 1);
            row("rests(5, 5)", x, 0, 5);
        });
        edge(44, "NONE: others", () -> {
            int[][] others = {{10, 0}, {-1, 0}, {0, 10}, {0, -1}, {MAX, 0}, {MIN, 0}, {0, MAX}, {0, MIN}};
            for (int[] o : others) {
                refused("rests(" + o[0] + ", " + o[1] + ")", x -> x.rests(o[0], o[1]), NONE);
            }
        });
    }

    private static void lawIs(String text, int answer) {
        BluesAndGreens x = rich();
        due("law() of " + text, law(x, text), answer);
        BluesAndGreens twin = rich();
        twin.end(0);
        same("law() of " + text, x, twin);
    }

    private static void laws() {
        edge(45, "an empty one: none", () -> {
            BluesAndGreens x = city("50b;90g", "", "");
            rule(x, "1-i");
            due("law(), by which green wins", law(x, ""), -20);
            row("law()", x, 0, 20);
            due("THE RULE is as it was", x.strength(0), 1);
            rule(x, "");
            due("law(), as THE RULE is none", law(x, ""), 0);
            row("law(), as THE RULE is none", x, 0, 0);
        });
        edge(45, "of the next 20 RACES: the least and the most", () -> {
            BluesAndGreens x = city("50b;50g", "", "");
            rule(x, "i");
            due("20 more", law(x, "1-i"), 20);
            row("20 more", x, 20, 0);
            rule(x, "1-i");
            due("20 less", law(x, "i"), -20);
            row("20 less", x, 0, 20);
            due("as many", law(x, "5-i"), 0);
            row("as many", x, 20, 20);
        });
        edge(45, "20, not 19 or 21", () -> {
            // blue wins RACES 0 to 3 of eight
            BluesAndGreens x = city("50b;50g", "", "");
            rule(x, "n/4=i");
            due("from RACE 0 on", law(x, "1-i"), 8);
            row("from RACE 0 on", x, 20, 12);
            x.race(1);
            due("from RACE 1 on", law(x, "1-i"), 9);
            row("from RACE 1 on", x, 20, 11);
            x.race(4);
            due("from RACE 5 on", law(x, "1-i"), 11);
            row("from RACE 5 on", x, 20, 9);
            due("nothing was run", x.count(4), 5);
        });
        edge(45, "-10000 - p: the sign at p can't stand there (as rule())", () -> {
            lawIs("?", -10000);
            lawIs("s+", -10002);
            lawIs("s<c<i", -10003);
            lawIs("1000", -10003);
            lawIs("(((((s)))))", -10004);
            lawIs(times("1+", 19) + "1x", -10039);
            lawIs(times("1+", 20), -10040);
            lawIs(times("1+", 20) + "1", -10040);
            lawIs(times("-", 80), -10040);
            BluesAndGreens x = rich();
            due("40 signs can stand", law(x, times("-", 39) + "s"), 20);
        });
        edge(45, "-20000: no DRIVERS (asked behind the text)", () -> {
            String[] texts = {"", "s", times("-", 39) + "s", "?", "s+", times("-", 40) + "s"};
            int[] answers = {-20000, -20000, -20000, -10000, -10002, -10040};
            for (int i = 0; i < texts.length; i++) {
                BluesAndGreens x = poor();
                due("law() of " + texts[i], law(x, texts[i]), answers[i]);
                BluesAndGreens twin = poor();
                twin.end(0);
                same("law() of " + texts[i], x, twin);
            }
        });
    }

    /** What years() does, done by calls: RACES of blue, MONEY of both, how often they JOINED. */
    private static long[] byCalls(BluesAndGreens x, int seed, int n) {
        long modulus = 1L << 32;
        long r = Math.floorMod((long) seed, modulus);
        long[] all = new long[4];
        for (int i = 0; i < n; i++) {
            long[] draws = new long[3];
            int needed = 1;
            for (int d = 0; d < needed; d++) {
                r = (r * 1103515245L + 12345) % modulus;
                draws[d] = r / 65536;
                if (d == 0) {
                    needed = draws[0] % 4 < 2 ? 1 : draws[0] % 4 == 2 ? 3 : 2;
                }
            }
            if (needed == 1) {
                all[0] += x.race(1);
            } else if (needed == 3) {
                x.buy((int) (draws[1] % 2), (int) (draws[2] % x.count(0)));
            } else {
                x.grain((int) (draws[1] % 2), 5);
            }
            all[3] += x.count(5);
        }
        all[1] = x.club(0, 0);
        all[2] = x.club(1, 0);
        return all;
    }

    private static BluesAndGreens yearly(String drivers) {
        BluesAndGreens x = city(drivers, "", "9999;9999");
        x.show(0, 0);
        x.limit(6);
        return x;
    }

    private static void years() {
        edge(46, "n times (1 .. 60), by seeds from the least to the most", () -> {
            String[] drivers = {"510b", "510b;510g", "399b;599g;420g", times("120b;630g;", 3) + "710g;299b", "199g"};
            int[] seeds = {0, 1, -1, MAX, MIN, 12345, -98765, 65535, 65536};
            for (String some : drivers) {
                for (int seed : seeds) {
                    for (int n : new int[] {1, 2, 59, 60}) {
                        BluesAndGreens x = yearly(some);
                        long[] due = byCalls(yearly(some), seed, n);
                        due("years(" + seed + ", " + n + ") of " + some, x.years(seed, n), due[0]);
                        row("years(" + seed + ", " + n + ") of " + some, x, due[1], due[2], due[3]);
                    }
                }
            }
        });
        edge(46, "one whom it buys, if it can (as buy())", () -> {
            // R of seed 1: 16838 (2: buy), 38526 (0: blue), 10113 (of 1: 0, of 2: 1)
            BluesAndGreens x = city("510b", "", "");
            due("its own", x.years(1, 1), 0);
            row("its own", x, 100, 100, 0);
            BluesAndGreens y = city("510b;599g", "", "");
            due("for 99", y.years(1, 1), 0);
            row("for 99", y, 1, 199, 0);
            y.curse(0, 1);
            due("with 95", y.years(1, 1), 0);
            row("with 95", y, 95, 100, 0);
        });
        edge(46, "how often they JOINED behind one of these, also if it can't be bought", () -> {
            BluesAndGreens x = city("510b", "", "9999");
            x.show(0, 0);
            x.limit(9);
            due("years(1, 1)", x.years(1, 1), 0);
            row("years(1, 1)", x, 100, 100, 1);
            x.limit(10);
            due("years(1, 1)", x.years(1, 1), 0);
            row("years(1, 1), below LIMIT", x, 100, 100, 0);
        });
        edge(46, "NONE: another n", () -> {
            for (int n : new int[] {0, 61, -1, MAX, MIN}) {
                refused("years(1, " + n + ")", x -> x.years(1, n), NONE);
            }
        });
        edge(46, "-2: no DRIVERS (asked first)", () -> {
            for (int n : new int[] {0, 1, 60, 61, -1, MAX, MIN}) {
                refused("years(1, " + n + ")", Edges::poor, x -> x.years(1, n), -2);
            }
        });
        edge(46, "R is seed at first, at each call", () -> {
            BluesAndGreens x = yearly("510b;510g");
            int first = x.years(7, 60);
            x.years(8, 13);
            due("years(7, 60) again", x.years(7, 60), first);
        });
    }

    // ---- kept

    private static void keep() {
        edge(47, "under a number 0 .. 1: true", () -> {
            BluesAndGreens x = rich();
            due("keep(0)", x.keep(0), true);
            due("keep(1)", x.keep(1), true);
            x.again(0);
            due("RACE", x.count(4), 2);
            x.again(1);
            due("RACE", x.count(4), 2);
        });
        edge(47, "Refused: others", () -> {
            for (int i : new int[] {2, -1, MAX, MIN}) {
                refused("keep(" + i + ")", x -> x.keep(i) ? 1 : 0, 0);
            }
        });
        edge(47, "the later one stands under a number, each number for itself", () -> {
            BluesAndGreens x = city("10b", "", "");
            x.keep(0);
            x.race(1);
            x.keep(0);
            x.race(1);
            x.keep(1);
            x.race(1);
            due("again(0)", x.again(0), true);
            due("RACE", x.count(4), 1);
            due("again(1)", x.again(1), true);
            due("RACE", x.count(4), 2);
            due("again(0) once more", x.again(0), true);
            due("RACE", x.count(4), 1);
        });
        edge(47, "nothing else changes", () -> {
            BluesAndGreens x = allKept();
            due("keep(0)", x.keep(0), true);
            due("keep(1)", x.keep(1), true);
            same("keep()", x, allKept());
        });
    }

    private static BluesAndGreens allKept() {
        BluesAndGreens x = rich();
        x.keep(0);
        x.keep(1);
        return x;
    }

    private static void comes(String what, BluesAndGreens x, int reader, String text, int answer) {
        due(what, told(x, text, y -> reader == 0 ? y.drivers() : reader == 1 ? y.quarters() : y.quarrels()), answer);
    }

    private static void again() {
        edge(48, "MONEY, ANGER, WINS, CLUBS of DRIVERS, CURSED, WON, sides shown, RACE are as they were kept", () -> {
            BluesAndGreens x = rich();
            due("keep(0)", x.keep(0), true);
            x.race(9);
            x.buy(1, 0);
            x.buy(1, 1);
            x.curse(0, 2);
            x.show(0, 1);
            due("again(0)", x.again(0), true);
            int[][] clubs = {{70, 6, 0, 3}, {145, 4, 2, 4}};
            for (int i = 0; i < 8; i++) {
                due("club(" + i / 4 + ", " + i % 4 + ")", x.club(i / 4, i % 4), clubs[i / 4][i % 4]);
            }
            due("CURSED ones", x.count(6), 1);
            due("WON", x.driver(2, 4), 2);
            due("QUARRELS shown", x.count(7), 2);
            due("the side", x.quarrel(1, 4), 0);
            due("RACE", x.count(4), 2);
        });
        edge(48, "nothing else is: LIMIT, THE RULE, PRICES, what was heard, THE TEXT, the ROW", () -> {
            BluesAndGreens x = rich();
            x.limit(50);
            rule(x, "i*100");
            x.sheet(2, 3, 33, 0);
            x.heard(0, 1);
            x.rests(0, 0);
            tell(x, "abcde");
            due("again(0)", x.again(0), true);
            due("LIMIT", x.count(3), 50);
            due("STRENGTH", x.strength(2), 200);
            due("PRICE", x.driver(0, 1), 33);
            due("what was heard", x.count(8), 2);
            due("signs of THE TEXT", x.count(11), 5);
            row("the ROW", x, 0, 0);
        });
        edge(48, "Refused: nothing kept, no such number", () -> {
            refused("again(1), 0 alone being kept", Edges::poor, x -> x.again(1) ? 1 : 0, 0);
            for (int i : new int[] {2, -1, MAX, MIN}) {
                refused("again(" + i + ")", x -> x.again(i) ? 1 : 0, 0);
            }
        });
        edge(48, "Refused: DRIVERS, QUARTERS or QUARRELS came since", () -> {
            String[] texts = {"11b", "1b1", "1111"};
            for (int i = 0; i < 3; i++) {
                int reader = i;
                refused("again(0)", () -> {
                    BluesAndGreens x = rich();
                    comes("one comes", x, reader, texts[reader], 1);
                    x.race(1);
                    tell(x, "55b");
                    return x;
                }, x -> x.again(0) ? 1 : 0, 0);
                BluesAndGreens x = rich();
                comes("one comes", x, i, texts[i], 1);
                due("again(1)", x.again(1), false);
                due("RACE", x.count(4), 2);
                due("keep(1)", x.keep(1), true);
                x.race(1);
                due("again(1), kept since", x.again(1), true);
                due("RACE", x.count(4), 2);
                due("again(0), not kept since", x.again(0), false);
            }
        });
        edge(48, "empty texts and refused ones bring nothing: not refused", () -> {
            String[] wrong = {"11b;", "1b1;", "1111;"};
            for (int i = 0; i < 3; i++) {
                BluesAndGreens x = rich();
                comes("an empty one", x, i, "", 0);
                comes("a refused one", x, i, wrong[i], -1 - wrong[i].length());
                due("again(0)", x.again(0), true);
                due("again(1)", x.again(1), true);
                due("RACE", x.count(4), 0);
            }
        });
    }

    private static void count() {
        edge(49, "what 0 .. 11", () -> {
            int[] due = {3, 4, 2, 7, 2, 0, 1, 2, 1, 4, 3, 3};
            BluesAndGreens x = rich();
            for (int i = 0; i < 12; i++) {
                due("count(" + i + ")", x.count(i), due[i]);
            }
            x.limit(4);
            due("1 if they JOIN", x.count(5), 1);
        });
        edge(49, "at their most", () -> {
            BluesAndGreens x = city(times("10g;", 7) + "10g", times("1b0;", 7) + "1b0", times("0000;", 7) + "0000");
            for (int i = 0; i < 8; i++) {
                x.curse(0, i);
                x.show(i, 1);
            }
            for (int i = 0; i < 13; i++) {
                x.heard(1, 0);
            }
            x.limit(99);
            x.order();
            tell(x, times("x", 80));
            int[] due = {8, 8, 8, 99, 0, 0, 255, 255, 12, 12, 8, 80};
            for (int i = 0; i < 12; i++) {
                due("count(" + i + ")", x.count(i), due[i]);
            }
        });
        edge(49, "NONE for another what", () -> {
            for (int what : new int[] {12, -1, 100, MAX, MIN}) {
                refused("count(" + what + ")", x -> x.count(what), NONE);
            }
        });
        edge(50, "Number i of the ROW: the first and the last", () -> {
            BluesAndGreens x = city(times("10g;", 7) + "10g", "", "");
            rule(x, "0");
            x.order();
            due("row(0)", x.row(0), 0);
            due("row(7)", x.row(7), 7);
        });
        edge(50, "NoSuchElementException: none such", () -> {
            for (int i : new int[] {3, -1, 8, MAX, MIN}) {
                throwing("row(" + i + ")", Edges::rich, x -> x.row(i));
            }
            throwing("row(8) of eight", () -> {
                BluesAndGreens x = city(times("10g;", 7) + "10g", "", "");
                x.order();
                return x;
            }, x -> x.row(8));
            throwing("row(0), nothing being told yet", BluesAndGreens::new, x -> x.row(0));
            throwing("row(1) behind a shorter one", () -> {
                BluesAndGreens x = rich();
                x.spark();
                return x;
            }, x -> x.row(1));
        });
        edge(50, "long numbers", () -> {
            BluesAndGreens x = new BluesAndGreens();
            x.lots(12, 12, 1);
            due("row(1)", x.row(1), 1000000000000L);
        });
    }

    public static void main(String[] args) {
        lots();
        bent();
        heard();
        fits();
        rests();
        laws();
        years();
        keep();
        again();
        count();
        finish(38, 50);
    }
}
