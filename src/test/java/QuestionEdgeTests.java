/** Edges of promises 23 (order) to 37 (common). */
public final class QuestionEdgeTests extends Edges {
    // ---- who wins

    private static void order() {
        edge(23, "-2: no DRIVERS", () -> refused("order()", Edges::poor, BluesAndGreens::order, -2));
        edge(23, "one DRIVER, and eight", () -> {
            BluesAndGreens x = city("10g", "", "");
            due("order()", x.order(), 0);
            row("order()", x, 0);
            BluesAndGreens y = city(times("10b;", 7) + "10g", "", "");
            rule(y, "i");
            due("order()", y.order(), 7);
            row("order()", y, 7, 6, 5, 4, 3, 2, 1, 0);
        });
        edge(23, "of equal ones the first ahead", () -> {
            BluesAndGreens x = city(times("10b;", 7) + "10g", "", "");
            rule(x, "0");
            due("all being equal", x.order(), 0);
            row("all being equal", x, 0, 1, 2, 3, 4, 5, 6, 7);
            rule(x, "i/2");
            due("by twos", x.order(), 6);
            row("by twos", x, 6, 7, 4, 5, 2, 3, 0, 1);
            rule(x, "-i/2");
            due("by twos, below 0", x.order(), 0);
            row("by twos, below 0", x, 0, 1, 2, 3, 4, 5, 6, 7);
        });
    }

    /** Green wins RACES 0, 1, 2 of eight, blue 3 to 7. */
    private static BluesAndGreens threeAndFive() {
        BluesAndGreens x = city("10b;10g", "", "");
        rule(x, "(n<3)=o");
        return x;
    }

    private static void ahead() {
        edge(24, "the next n RACES (0 .. 99): 0", () -> {
            BluesAndGreens x = rich();
            due("ahead(0)", x.ahead(0), 0);
            row("ahead(0)", x, 0, 0, 0);
            BluesAndGreens y = city("10b", "", "9090");
            y.show(0, 0);
            y.limit(9);
            due("ahead(0), as they JOIN", y.ahead(0), 0);
            row("ahead(0), as they JOIN", y, 0, 0, 0);
        });
        edge(24, "the next n RACES (0 .. 99): 99", () -> {
            BluesAndGreens x = city("10b", "", "");
            due("ahead(99), all of blue", x.ahead(99), 99);
            row("ahead(99), all of blue", x, 99, 0, 0);
            BluesAndGreens y = city("10g", "", "");
            due("ahead(99), all of green", y.ahead(99), 0);
            row("ahead(99), all of green", y, 0, 99, 0);
            due("ahead(99), of both", threeAndFive().ahead(99), 60);
        });
        edge(24, "NONE: another n", () -> {
            for (int n : new int[] {100, -1, MAX, MIN}) {
                refused("ahead(" + n + ")", x -> x.ahead(n), NONE);
            }
        });
        edge(24, "-2: no DRIVERS (asked first)", () -> {
            for (int n : new int[] {0, 1, 99, 100, -1, MAX, MIN}) {
                refused("ahead(" + n + ")", Edges::poor, x -> x.ahead(n), -2);
            }
        });
        edge(24, "WINS in a row that are the most: at the start, in the middle, at the end", () -> {
            int[][] due = {{1, 0, 0, 1}, {3, 0, 0, 3}, {4, 1, 1, 3}, {8, 5, 5, 3}, {11, 5, 5, 3}, {12, 6, 5, 3}};
            BluesAndGreens x = threeAndFive();
            for (int[] d : due) {
                due("ahead(" + d[0] + ")", x.ahead(d[0]), d[1]);
                row("ahead(" + d[0] + ")", x, d[2], d[3], 0);
            }
            x.race(5);
            due("ahead(6) from RACE 5 on", x.ahead(6), 3);
            row("ahead(6) from RACE 5 on: earlier ones are none of these", x, 3, 3, 0);
            due("ahead(5)", x.ahead(5), 3);
            row("ahead(5)", x, 3, 2, 0);
        });
        edge(24, "in how many of them, behind the RACE, they JOIN", () -> {
            // green wins: 0 9, then 3 8, 6 7, 9 6, 12 5, 15 4, 18 3, 21 2
            int[][] due = {{0, 0}, {1, 1}, {5, 5}, {6, 6}, {7, 6}, {99, 6}};
            BluesAndGreens x = city("10g", "", "0090");
            x.show(0, 0);
            x.limit(3);
            for (int[] d : due) {
                x.ahead(d[0]);
                row("ahead(" + d[0] + ")", x, 0, d[0], d[1]);
            }
            due("nothing was run", x.count(4), 0);
            due("ANGER of green", x.club(1, 1), 9);
        });
    }

    private static void joins() {
        edge(25, "0 now", () -> {
            // green wins: 3 6, then 6 5, 9 4
            int[][] due = {{1, 0, 3, 6}, {3, 0, 3, 6}, {4, 1, 6, 5}, {5, 1, 6, 5}};
            for (int[] d : due) {
                BluesAndGreens x = city("10g", "", "3060");
                x.show(0, 0);
                x.limit(d[0]);
                due("joins(), LIMIT " + d[0], x.joins(), d[1]);
                row("joins(), LIMIT " + d[0], x, d[2], d[3]);
                due("nothing was run", x.count(4), 0);
            }
        });
        edge(25, "(0 .. 99): 98, 99; -2: not in 99", () -> {
            // by turns, behind 98 RACES 99 98, 99: 98 101, 100: 101 100
            BluesAndGreens x = city("50b;50g", "", "2000");
            rule(x, "n-n/2*2=i");
            x.limit(98);
            due("in 98", x.joins(), 98);
            row("in 98", x, 99, 98);
            x.limit(99);
            due("in 100", x.joins(), -2);
            row("in 100, the ROW is as it was", x, 99, 98);
            x.race(1);
            due("in 99 from now on", x.joins(), 99);
            row("in 99 from now on", x, 101, 100);
            x.undo();
            x.show(0, 0);
            due("in 99", x.joins(), 99);
            row("in 99", x, 99, 101);
        });
        edge(25, "-2: never", () -> refused("joins()", () -> {
            BluesAndGreens x = rich();
            x.limit(99);
            return x;
        }, BluesAndGreens::joins, -2));
        edge(25, "-2: no DRIVERS (and not now)", () -> {
            refused("joins()", Edges::poor, BluesAndGreens::joins, -2);
            BluesAndGreens x = city("", "", "9080");
            x.show(0, 0);
            x.limit(8);
            due("no DRIVERS, but now", x.joins(), 0);
            row("no DRIVERS, but now", x, 9, 8);
            x.limit(9);
            due("no DRIVERS, and not now", x.joins(), -2);
            row("the ROW is as it was", x, 9, 8);
        });
    }

    /** Blue has so much MONEY left (1 .. 100), green the rest of 200; PRICES are 0. */
    private static BluesAndGreens withMoney(String drivers, int greenOne, int left) {
        BluesAndGreens x = city(drivers, "", "");
        x.sheet(2, 8, 100 - left, 0);
        x.buy(0, greenOne);
        x.sheet(2, 8, 0, 0);
        x.buy(1, greenOne);
        x.order();
        return x;
    }

    private static void bribe() {
        edge(26, "0 and no DRIVER, NONE, if it wins as it is", () -> {
            BluesAndGreens x = city("10b;10g;10g", "", "");
            rule(x, "0");
            due("bribe(0), by the first of equal ones", x.bribe(0), 0);
            row("bribe(0)", x, NONE);
            due("bribe(1), for nothing", x.bribe(1), 0);
            row("bribe(1), for nothing", x, 0);
        });
        edge(26, "MONEY enough: just so, and 1 too little", () -> {
            for (int price = 94; price <= 96; price++) {
                int p = price;
                BluesAndGreens x = city("1" + p + "b;5" + p + "g", "", "");
                x.curse(0, 1);
                rule(x, "s");
                due("MONEY", x.club(0, 0), 95);
                x.order();
                due("for " + p, x.bribe(0), p <= 95 ? p : -2);
                row("for " + p, x, p <= 95 ? new long[] {1} : new long[] {1, 0});
            }
        });
        edge(26, "the cheapest; of as cheap ones the first", () -> {
            BluesAndGreens x = city("530g;520g;520g;540g", "", "");
            rule(x, "1-o");
            due("of two as cheap", x.bribe(0), 20);
            row("of two as cheap", x, 1);
            x.sheet(2, 4, 40, -10);
            due("the last", x.bribe(0), 10);
            row("the last", x, 3);
            x.sheet(2, 4, 10, 10);
            due("the first", x.bribe(0), 10);
            row("the first", x, 0);
            x.sheet(2, 4, 99, 0);
            due("all as cheap", x.bribe(0), 99);
            row("all as cheap", x, 0);
            x.sheet(2, 0, 0, 0);
            due("for nothing", x.bribe(0), 0);
            row("for nothing there is a DRIVER", x, 0);
        });
        edge(26, "by whom a CLUB wins: a cheaper one may be of no use", () -> {
            BluesAndGreens x = city("110g;930g;10b", "", "");
            rule(x, "s");
            due("bribe(0)", x.bribe(0), 30);
            row("bribe(0)", x, 1);
        });
        edge(26, "-2: none", () -> {
            refused("no one tips it", () -> {
                BluesAndGreens x = city("110g;110g;110b", "", "");
                rule(x, "o");
                x.order();
                return x;
            }, x -> x.bribe(0), -2);
            refused("no DRIVERS", Edges::poor, x -> x.bribe(0), -2);
            refused("no DRIVERS", Edges::poor, x -> x.bribe(1), -2);
        });
        edge(26, "NONE: none such", () -> {
            for (int club : new int[] {2, -1, MAX, MIN}) {
                refused("bribe(" + club + ")", x -> x.bribe(club), NONE);
                refused("bribe(" + club + ") without DRIVERS", Edges::poor, x -> x.bribe(club), NONE);
            }
        });
    }

    private static void lead() {
        String one = "10b;20g";
        String two = "10b;20g;20g";
        String seven = "10b" + times(";20g", 7);
        edge(27, "0, if it wins as it is", () -> {
            BluesAndGreens x = city("10b;10g", "", "");
            rule(x, "0");
            due("lead(0)", x.lead(0), 0);
            row("lead(0)", x, 0);
            due("lead(1), as a curse is of no use", x.lead(1), -2);
            row("lead(1), the ROW is as it was", x, 0);
        });
        edge(27, "MONEY 5 for each: just so, and 1 too little", () -> {
            String[] drivers = {one, two, seven};
            int[] many = {1, 2, 7};
            for (int i = 0; i < 3; i++) {
                String all = drivers[i];
                int enough = 5 * many[i];
                BluesAndGreens x = withMoney(all, 1, enough);
                due("with " + enough, x.lead(0), many[i]);
                row("with " + enough, x, (2 << many[i]) - 2);
                due("MONEY is not paid", x.club(0, 0), enough);
                due("no one is CURSED", x.count(6), 0);
                refused("with 1 less", () -> withMoney(all, 1, enough - 1), y -> y.lead(0), -2);
            }
        });
        edge(27, "not yet CURSED", () -> {
            BluesAndGreens x = city(two, "", "");
            x.curse(0, 1);
            due("one being CURSED", x.lead(0), 1);
            row("one being CURSED", x, 4);
            x.curse(0, 2);
            due("both being CURSED", x.lead(0), 0);
            row("both being CURSED", x, 0);
            // another rule by which all that could be cursed are CURSED, and it does not win
            rule(x, "o");
            due("none being left to be cursed", x.lead(0), -2);
        });
        edge(27, "DRIVERS of the other CLUB alone", () -> {
            // who is CURSED wins, of equal ones the first, who is blue: green can curse him, blue can't
            BluesAndGreens x = city("10b;10g", "", "");
            rule(x, "o-c");
            due("lead(1)", x.lead(1), 0);
            rule(x, "o+c*(o<1)*2");
            due("lead(0), whose own would win CURSED", x.lead(0), -2);
        });
        edge(27, "the fewest; of as few the least bits", () -> {
            BluesAndGreens x = city("20b;40g;30g;10g", "", "");
            // 20 against 40, 31, 11, and 15 less if CURSED
            rule(x, "s*10-c*25");
            due("lead(0)", x.lead(0), 2);
            row("lead(0)", x, 6);
            rule(x, "(c<1)*o*9-i");
            due("all that are green", x.lead(0), 3);
            row("all that are green", x, 14);
            BluesAndGreens y = city("10g;10g;10g;10b", "", "");
            // a curse that is paid, whoever is CURSED by it, makes m of blue less
            rule(y, "(i=3)*(10-m)");
            due("any of three", y.lead(0), 1);
            row("any of three: the least", y, 1);
        });
        edge(27, "-2: none", () -> {
            refused("no curse tips it", () -> {
                BluesAndGreens x = city(two, "", "");
                rule(x, "o");
                x.order();
                return x;
            }, x -> x.lead(0), -2);
            refused("no DRIVERS", Edges::poor, x -> x.lead(0), -2);
        });
        edge(27, "NONE: none such", () -> {
            for (int club : new int[] {2, -1, MAX, MIN}) {
                refused("lead(" + club + ")", x -> x.lead(club), NONE);
                refused("lead(" + club + ") without DRIVERS", Edges::poor, x -> x.lead(club), NONE);
            }
        });
    }

    private static void stable() {
        edge(28, "nothing to buy: 0", () -> {
            BluesAndGreens x = city("10b", "", "");
            due("stable(0), all being its own", x.stable(0), 0);
            row("stable(0), all being its own", x, 0, 0);
            BluesAndGreens y = poor();
            due("no DRIVERS", y.stable(1), 0);
            row("no DRIVERS", y, 0, 0);
            BluesAndGreens z = withMoney("50b;50g", 1, 1);
            z.sheet(2, 2, 2, 0);
            due("all being too dear", z.stable(0), 0);
            row("all being too dear", z, 0, 0);
        });
        edge(28, "with its MONEY: just so, and 1 too little", () -> {
            BluesAndGreens x = city("50b;340g;460g", "", "");
            due("for 100", x.stable(0), 7);
            row("for 100", x, 6, 100);
            x.sheet(2, 3, 0, 41);
            due("for 123", x.stable(0), 4);
            row("for 123: the other one alone", x, 4, 82);
            x.sheet(2, 3, 0, 33);
            due("for 99", x.stable(0), 7);
            row("for 99", x, 6, 99);
            BluesAndGreens y = city("50b;340g;461g", "", "");
            due("for 101", y.stable(0), 4);
            row("for 101", y, 4, 61);
        });
        edge(28, "of as much the cheapest, then the least bits", () -> {
            BluesAndGreens x = city("250g;130g;120g;210g", "", "");
            due("for 100: 2 1 2, 2 1 1 or 1 1 2", x.stable(0), 5);
            row("for 100", x, 13, 80);
            x.sheet(2, 4, 60, 0);
            due("one of 2", x.stable(0), 2);
            row("one of 2, the least", x, 1, 60);
            x.sheet(2, 4, 90, -10);
            due("one of 2", x.stable(0), 2);
            row("one of 2, the cheapest", x, 8, 60);
        });
        edge(28, "DRIVERS of the other one, for either CLUB", () -> {
            BluesAndGreens x = city("310b;520g;740b;960g", "", "");
            due("stable(0)", x.stable(0), 14);
            row("stable(0)", x, 10, 80);
            due("stable(1)", x.stable(1), 10);
            row("stable(1)", x, 5, 50);
        });
        edge(28, "for nothing: all", () -> {
            BluesAndGreens x = city(times("90g;", 7) + "90g", "", "");
            due("all eight", x.stable(0), 72);
            row("all eight", x, 255, 0);
            due("of its own none", x.stable(1), 0);
        });
        edge(28, "NONE: none such", () -> {
            for (int club : new int[] {2, -1, MAX, MIN}) {
                refused("stable(" + club + ")", x -> x.stable(club), NONE);
            }
        });
    }

    // ---- QUARRELS

    private static BluesAndGreens quarrelling(String quarrels, int limit) {
        BluesAndGreens x = city("", "", quarrels);
        x.limit(limit);
        x.rests(2, 3);
        tell(x, "55b");
        return x;
    }

    private static void apart() {
        String eight = times("9090;", 7) + "9090";
        edge(29, "no QUARRELS, and all shown: no sides", () -> {
            BluesAndGreens x = poor();
            due("no QUARRELS", x.apart(), 0);
            row("no QUARRELS", x, 0, 0);
            BluesAndGreens y = quarrelling("3040", 9);
            y.show(0, 0);
            due("all shown", y.apart(), 0);
            row("all shown", y, 3, 4);
        });
        edge(29, "they JOIN behind none of them: at LIMIT they do", () -> {
            int[][] due = {{10, 0, 9, 9}, {9, 1, 0, 0}};
            for (int[] d : due) {
                BluesAndGreens x = quarrelling("9090", d[0]);
                due("apart(), LIMIT " + d[0], x.apart(), d[1]);
                row("apart(), LIMIT " + d[0], x, d[2], d[3]);
            }
        });
        edge(29, "of all the least", () -> {
            // by LIMIT 18 two of side 0 are too many, by 19 three
            int[][] due = {{9, 255}, {10, 127}, {18, 127}, {19, 63}, {72, 1}, {73, 0}};
            for (int[] d : due) {
                BluesAndGreens x = quarrelling(eight, d[0]);
                due("apart(), LIMIT " + d[0], x.apart(), d[1]);
                int anger = 9 * (8 - Integer.bitCount(d[1]));
                row("apart(), LIMIT " + d[0], x, anger, anger);
            }
        });
        edge(29, "sides of all QUARRELS not shown yet; bits are their numbers", () -> {
            BluesAndGreens x = quarrelling("9090;9090;9090", 10);
            x.show(1, 1);
            due("apart()", x.apart(), 1);
            row("apart()", x, 9, 9);
            x.show(0, 0);
            due("apart()", x.apart(), 4);
            row("apart()", x, 9, 9);
        });
        edge(29, "-2: by none", () -> {
            refused("each side is too much", () -> quarrelling("1111", 1), BluesAndGreens::apart, -2);
            refused("they JOIN already", () -> {
                BluesAndGreens x = quarrelling("5050;0000", 5);
                x.show(0, 0);
                return x;
            }, BluesAndGreens::apart, -2);
        });
    }

    private static void calm() {
        edge(30, "no QUARRELS not shown: 0, and ANGER as it is", () -> {
            BluesAndGreens x = poor();
            due("no QUARRELS", x.calm(), 0);
            row("no QUARRELS", x, 0, 0);
            BluesAndGreens y = quarrelling("3040", 3);
            y.show(0, 0);
            due("all shown", y.calm(), 0);
            row("all shown", y, 3, 4);
        });
        edge(30, "the lesser ANGER of the two is the least", () -> {
            // sides: 5 4, 6 3; then 3 6 the other way round
            String[] quarrels = {"5643", "4356", "6534", "3465"};
            int[] due = {1, 1, 0, 0};
            for (int i = 0; i < 4; i++) {
                BluesAndGreens x = quarrelling(quarrels[i], 1);
                due("calm() of " + quarrels[i], x.calm(), due[i]);
                row("calm() of " + quarrels[i], x, 3, 6);
            }
        });
        edge(30, "of as little ones the least greater, then the least bits", () -> {
            BluesAndGreens x = quarrelling("9833", 20);
            due("the least greater", x.calm(), 1);
            row("the least greater", x, 3, 8);
            BluesAndGreens y = quarrelling("8833", 20);
            due("the least bits", y.calm(), 0);
            row("the least bits", y, 3, 8);
            BluesAndGreens z = quarrelling("3883", 20);
            due("the least bits, blue and green by turns", z.calm(), 0);
            row("the least bits, blue and green by turns", z, 3, 8);
        });
        edge(30, "all eight", () -> {
            BluesAndGreens x = quarrelling(times("9181;", 7) + "9181", 20);
            due("calm()", x.calm(), 255);
            row("calm()", x, 8, 8);
        });
        edge(30, "ANGER is 999 at most", () -> {
            BluesAndGreens x = city("10b", "", "0012;0003");
            races(x, 400);
            due("calm()", x.calm(), 0);
            row("calm()", x, 0, 999);
        });
    }

    private static void risky() {
        edge(31, "no QUARRELS, and all shown: no ways by which they JOIN behind some of them", () -> {
            BluesAndGreens x = poor();
            due("no QUARRELS", x.risky(), 0);
            row("no QUARRELS", x, 0);
            BluesAndGreens y = quarrelling("3040", 9);
            y.show(0, 0);
            due("all shown", y.risky(), 0);
            row("all shown", y, 0);
        });
        edge(31, "JOIN at LIMIT, not below", () -> {
            // the lesser ANGER is 5 by side 0, 7 by side 1
            int[][] due = {{5, 2}, {6, 1}, {7, 1}, {8, 0}};
            for (int[] d : due) {
                BluesAndGreens x = quarrelling("5768", d[0]);
                due("risky(), LIMIT " + d[0], x.risky(), d[1]);
                row("risky(), LIMIT " + d[0], x, 1);
            }
        });
        edge(31, "of all eight: all ways but one, and all", () -> {
            BluesAndGreens x = quarrelling(times("9090;", 7) + "9090", 9);
            due("all but one", x.risky(), 255);
            row("all but one", x, 255);
            due("all", quarrelling(times("1111;", 7) + "1111", 8).risky(), 256);
            due("none", quarrelling(times("1111;", 7) + "1111", 9).risky(), 0);
        });
        edge(31, "QUARRELS not shown (bits)", () -> {
            BluesAndGreens x = quarrelling("9090;9090;9090", 10);
            x.show(1, 0);
            due("risky()", x.risky(), 3);
            row("risky()", x, 5);
            x.show(0, 1);
            due("risky()", x.risky(), 1);
            row("risky()", x, 4);
        });
    }

    private static void worst() {
        edge(32, "-2: all were shown", () -> {
            refused("no QUARRELS", Edges::poor, BluesAndGreens::worst, -2);
            refused("all shown", () -> {
                BluesAndGreens x = quarrelling("1111", 5);
                x.show(0, 0);
                return x;
            }, BluesAndGreens::worst, -2);
        });
        edge(32, "of equal ones the first", () -> {
            BluesAndGreens x = quarrelling("1111;5151;1515;5555", 5);
            due("worst()", x.worst(), 1);
            row("worst()", x, 5, 0);
            x.show(1, 1);
            due("worst()", x.worst(), 2);
            row("worst()", x, 5, 1);
            x.show(2, 0);
            due("worst(), the last", x.worst(), 3);
            row("worst(), the last", x, 5, 0);
        });
        edge(32, "the worse side (of like ones 0)", () -> {
            String[] quarrels = {"3333", "3434", "4343", "3544", "0000"};
            int[][] due = {{3, 0}, {4, 1}, {4, 0}, {4, 1}, {0, 0}};
            for (int i = 0; i < quarrels.length; i++) {
                BluesAndGreens x = quarrelling(quarrels[i], 5);
                due("worst() of " + quarrels[i], x.worst(), 0);
                row("worst() of " + quarrels[i], x, due[i][0], due[i][1]);
            }
        });
        edge(32, "as it is then, less as it is now", () -> {
            // 9 0: of green's 5 4, of blue's 9 nothing is added to the lesser one
            BluesAndGreens x = quarrelling("9900;9900;0054", 5);
            x.show(0, 0);
            due("worst()", x.worst(), 2);
            row("worst()", x, 5, 0);
            // 9 5: green's 9 would make the lesser one 9, which is blue's
            BluesAndGreens y = quarrelling("9059;0099", 5);
            y.show(0, 0);
            due("worst()", y.worst(), 1);
            row("worst()", y, 4, 0);
        });
        edge(32, "ANGER is 999 at most", () -> {
            BluesAndGreens x = city("50b;50g", "", "9999;0099");
            rule(x, "n-n/2*2=i");
            races(x, 1200);
            due("ANGER of blue", x.club(0, 1), 999);
            due("ANGER of green", x.club(1, 1), 998);
            due("worst()", x.worst(), 0);
            row("worst()", x, 1, 0);
        });
        edge(32, "the eighth", () -> {
            BluesAndGreens x = quarrelling(times("0000;", 7) + "0101", 5);
            due("worst()", x.worst(), 7);
            row("worst()", x, 1, 1);
        });
    }

    // ---- riots

    private static BluesAndGreens quarters(String quarters) {
        BluesAndGreens x = city("", quarters, "");
        x.rests(2, 3);
        tell(x, "55b");
        return x;
    }

    private static void riots() {
        edge(33, "NONE: bits of none such", () -> {
            due("all four", rich().riots(15), 15);
            for (int some : new int[] {16, 17, 128, 256, -1, MIN, MAX, 1 << 30}) {
                refused("riots(" + some + ")", x -> x.riots(some), NONE);
            }
            refused("riots(1) of none", Edges::poor, x -> x.riots(1), NONE);
            refused("riots(256) of eight", () -> quarters(times("1b1;", 7) + "1b1"), x -> x.riots(256), NONE);
            due("riots(255) of eight", quarters(times("1b9;", 7) + "1b9").riots(255), 255);
        });
        edge(33, "none at first, no QUARTERS", () -> {
            BluesAndGreens x = poor();
            due("no QUARTERS", x.riots(0), 0);
            row("no QUARTERS", x, 0, 0);
            BluesAndGreens y = quarters("7b1;8g2");
            due("none at first", y.riots(0), 0);
            row("none at first", y, 0, 0);
        });
        edge(33, "and those with NEED 0, not 1", () -> {
            BluesAndGreens x = quarters("7b2;8g0;9b2");
            due("riots(0)", x.riots(0), 2);
            row("riots(0)", x, 1, 8);
            due("NEED 0 sets off NEED 1", quarters("7b2;8g0;9b1").riots(0), 7);
        });
        edge(33, "as many others as its NEED, or more", () -> {
            // of three others who riot
            int[][] due = {{2, 15}, {3, 15}, {4, 7}, {9, 7}};
            for (int[] d : due) {
                BluesAndGreens x = quarters("1b9;1b9;1b9;1b" + d[0]);
                due("NEED " + d[0], x.riots(7), d[1]);
                row("NEED " + d[0], x, Integer.bitCount(d[1]), Integer.bitCount(d[1]));
            }
        });
        edge(33, "others: it is none of them itself", () -> {
            due("two with NEED 1", quarters("1b1;1b1").riots(0), 0);
            due("two with NEED 2, one being set off", quarters("1b2;1b2").riots(1), 1);
        });
        edge(33, "in the end: one behind another, up to eight", () -> {
            BluesAndGreens x = quarters("99b7;99b6;99b5;99b4;99b3;99b2;99b1;99b0");
            due("riots(0)", x.riots(0), 255);
            row("riots(0)", x, 8, 792);
            due("but for the last", quarters("1b8;1b6;1b5;1b4;1b3;1b2;1b1;1b0").riots(0), 254);
        });
    }

    private static void spark() {
        edge(34, "none, one, all", () -> {
            BluesAndGreens x = poor();
            due("no QUARTERS", x.spark(), 0);
            row("no QUARTERS", x, 0);
            BluesAndGreens y = quarters("1b1;1b0");
            due("none", y.spark(), 0);
            row("none", y, 0);
            BluesAndGreens z = quarters("1b1;1b1");
            due("one", z.spark(), 1);
            row("one", z, 1);
            BluesAndGreens w = quarters(times("1b9;", 7) + "1b9");
            due("all eight", w.spark(), 8);
            row("all eight", w, 255);
            BluesAndGreens v = quarters(times("1b7;", 7) + "1b7");
            due("seven of eight", v.spark(), 7);
            row("seven of eight", v, 127);
        });
        edge(34, "of as few the least", () -> {
            BluesAndGreens x = quarters("1b1;1b1;1b3;1b9");
            due("the last must, and is enough", x.spark(), 1);
            row("the last", x, 8);
            BluesAndGreens y = quarters("1b2;1b2;1b2;1b2");
            due("any two", y.spark(), 2);
            row("any two", y, 3);
        });
    }

    private static void won() {
        edge(35, "n (0 .. 8)", () -> {
            BluesAndGreens x = quarters(times("1b0;", 7) + "1b0");
            for (int n = 0; n <= 8; n++) {
                due("won(0, " + n + ")", x.won(0, n), 8 - n);
                row("won(0, " + n + "), the least", x, (1 << (8 - n)) - 1);
            }
        });
        edge(35, "no more than n, though some are set off", () -> {
            BluesAndGreens x = quarters("1b9;1b9;1b9;1b9");
            int[][] due = {{0, 0, 0, 0}, {8, 0, 1, 8}, {8, 1, 0, 0}, {12, 1, 1, 4}, {12, 0, 2, 12}, {15, 3, 1, 1}, {15, 4, 0, 0}, {15, 8, 0, 0}};
            for (int[] d : due) {
                due("won(" + d[0] + ", " + d[1] + ")", x.won(d[0], d[1]), d[2]);
                row("won(" + d[0] + ", " + d[1] + ")", x, d[3]);
            }
        });
        edge(35, "they never riot: none of them sets off others", () -> {
            BluesAndGreens x = quarters("1b0;1b1;1b2;1b3");
            due("won(0, 3)", x.won(0, 3), 1);
            row("won(0, 3)", x, 1);
            due("won(0, 2)", x.won(0, 2), 1);
            due("won(2, 2)", x.won(2, 2), 1);
            row("won(2, 2): one alone is below the NEED of others", x, 1);
        });
        edge(35, "no QUARTERS", () -> {
            BluesAndGreens x = poor();
            due("won(0, 0)", x.won(0, 0), 0);
            row("won(0, 0)", x, 0);
        });
        edge(35, "NONE: others", () -> {
            int[][] others = {{0, -1}, {0, 9}, {0, MAX}, {0, MIN}, {16, 0}, {-1, 0}, {MIN, 0}, {256, 8}, {16, 9}};
            for (int[] o : others) {
                refused("won(" + o[0] + ", " + o[1] + ")", x -> x.won(o[0], o[1]), NONE);
            }
            refused("won(1, 0) of none", Edges::poor, x -> x.won(1, 0), NONE);
            refused("won(0, 9) of none", Edges::poor, x -> x.won(0, 9), NONE);
        });
    }

    private static void gates() {
        edge(36, "k GATES (0 .. 9) held", () -> {
            BluesAndGreens x = quarters("9b0abcdefghi;5b0abcdefgh;1b0");
            int[][] due = {{0, 1, 0, 4}, {7, 1, 0, 4}, {8, 6, 255, 6}, {9, 15, 511, 7}};
            for (int[] d : due) {
                due("gates(7, " + d[0] + ")", x.gates(7, d[0]), d[1]);
                row("gates(7, " + d[0] + ")", x, d[2], d[3]);
            }
        });
        edge(36, "of QUARTERS told as bits: none, and all", () -> {
            BluesAndGreens x = quarters("9b0a;8g0b;7b0");
            due("of none", x.gates(0, 9), 0);
            row("of none", x, 0, 0);
            due("of one", x.gates(2, 9), 8);
            row("of one", x, 2, 2);
            due("of all", x.gates(7, 9), 24);
            row("of all", x, 3, 7);
            BluesAndGreens y = poor();
            due("no QUARTERS", y.gates(0, 9), 0);
            row("no QUARTERS", y, 0, 0);
        });
        edge(36, "of as much the fewest, then the least", () -> {
            BluesAndGreens x = quarters("9b0ab;9b0c;9b0d;5b0i");
            due("gates(3, 2)", x.gates(3, 2), 9);
            row("gates(3, 2): one GATE", x, 4, 2);
            due("gates(6, 1)", x.gates(6, 1), 9);
            row("gates(6, 1): the least", x, 4, 2);
            due("gates(15, 1)", x.gates(15, 1), 9);
            row("gates(15, 1)", x, 4, 2);
            due("gates(8, 9)", x.gates(8, 9), 5);
            row("gates(8, 9): the ninth GATE alone", x, 256, 8);
        });
        edge(36, "the first GATE alone, and none", () -> {
            BluesAndGreens x = quarters("9b0a;8b0b");
            due("with none", x.gates(3, 0), 0);
            row("with none", x, 0, 0);
            due("with one", x.gates(3, 1), 9);
            row("with one", x, 1, 1);
        });
        edge(36, "one is kept in, if all its GATES are held", () -> {
            BluesAndGreens x = quarters("9b0abc");
            due("two of three", x.gates(1, 2), 0);
            row("two of three", x, 0, 0);
            due("three of three", x.gates(1, 3), 9);
            row("three of three", x, 7, 1);
        });
        edge(36, "NONE: others", () -> {
            int[][] others = {{1, -1}, {1, 10}, {1, MAX}, {1, MIN}, {16, 0}, {-1, 0}, {MIN, 5}, {256, 9}, {16, 10}};
            for (int[] o : others) {
                refused("gates(" + o[0] + ", " + o[1] + ")", x -> x.gates(o[0], o[1]), NONE);
            }
            refused("gates(1, 1) of none", Edges::poor, x -> x.gates(1, 1), NONE);
            refused("gates(0, 10) of none", Edges::poor, x -> x.gates(0, 10), NONE);
        });
    }

    private static void common() {
        edge(37, "All nine, and 0, for none", () -> {
            BluesAndGreens x = rich();
            due("common(0)", x.common(0), 511);
            row("common(0)", x, 0);
            BluesAndGreens y = poor();
            due("no QUARTERS", y.common(0), 511);
            row("no QUARTERS", y, 0);
        });
        edge(37, "of one, of all, of those without", () -> {
            BluesAndGreens x = quarters("1b0abi;1b0bci;1b0i;1b0");
            int[][] due = {{1, 259, 259}, {3, 258, 263}, {7, 256, 263}, {15, 0, 263}, {8, 0, 0}};
            for (int[] d : due) {
                due("common(" + d[0] + ")", x.common(d[0]), d[1]);
                row("common(" + d[0] + ")", x, d[2]);
            }
        });
        edge(37, "NONE: bits of none such", () -> {
            for (int those : new int[] {16, 31, 256, -1, MIN, MAX}) {
                refused("common(" + those + ")", x -> x.common(those), NONE);
            }
            refused("common(1) of none", Edges::poor, x -> x.common(1), NONE);
        });
    }

    public static void main(String[] args) {
        order();
        ahead();
        joins();
        bribe();
        lead();
        stable();
        apart();
        calm();
        risky();
        worst();
        riots();
        spark();
        won();
        gates();
        common();
        finish(23, 37);
    }
}
