/** The edges of promises 20 to 25: TOLD AHEAD, FIRST, ORDERS, FEIGNED, SPRINGS. One function for each sentence. */
public final class SpringEdgeTests extends Due {
    private static final int[] FACTORIALS = {1, 1, 2, 6, 24};
    private static final int MOST_CALLS = 500;

    private static WhaleTown signs(int many) {
        return laid(DULL.repeat(many));
    }

    /** Pairs of figures: "01" is 0 ahead of 1. */
    private static WhaleTown told(int signs, String... pairs) {
        WhaleTown x = signs(signs);
        for (int i = 0; i < pairs.length; i++) {
            due("ahead " + pairs[i], x.ahead(pairs[i].charAt(0) - '0', pairs[i].charAt(1) - '0'), i + 1);
        }
        return x;
    }

    private static void dueOrders(int first, int orders, int signs, String... pairs) {
        WhaleTown x = told(signs, pairs);
        String name = signs + " signs, " + String.join(" ", pairs);
        due("first() of " + name, x.first(), first);
        due("orders() of " + name, x.orders(), orders);
    }

    private static WhaleTown days(String text, int... signsAndWorks) {
        WhaleTown x = laid(text);
        for (int i = 0; i < signsAndWorks.length; i += 2) {
            due("day of " + text, x.day(signsAndWorks[i], signsAndWorks[i + 1]), i / 2 + 1);
        }
        return x;
    }

    private static void dueFeigned(int days, String text, int... signsAndWorks) {
        due("feigned() of " + text + java.util.Arrays.toString(signsAndWorks), days(text, signsAndWorks).feigned(), days);
    }

    private static void dueSpring(String text, int z, int works, int turns, int stirring) {
        WhaleTown x = laid(text);
        due("spring(" + z + ", " + works + ", 0) of " + text, x.spring(z, works, 0), turns);
        due("spring(" + z + ", " + works + ", 1) of " + text, x.spring(z, works, 1), stirring);
    }

    // ---- 20

    private static void signsThatAreTold() {
        sentence("ahead: a ahead of b, SIGNS such as there are. BAD (alike, too)");
        for (int signs = 1; signs <= 4; signs++) {
            for (int a = -1; a <= signs; a++) {
                for (int b = -1; b <= signs; b++) {
                    boolean so = a >= 0 && a < signs && b >= 0 && b < signs && a != b;
                    WhaleTown x = signs(signs);
                    due("ahead(" + a + ", " + b + ") of " + signs, x.ahead(a, b), so ? 1 : BAD);
                    due("count(5)", x.count(5), so ? 1 : 0);
                    due("orders()", x.orders(), so ? FACTORIALS[signs] / 2 : FACTORIALS[signs]);
                }
            }
            int many = signs;
            if (signs > 1) {
                dueTold("ahead a of " + signs, 1, signs - 1, a -> signs(many).ahead(a, 0));
                dueTold("ahead b of " + signs, 1, signs - 1, b -> signs(many).ahead(0, b));
            }
            int[] others = {Integer.MIN_VALUE, Integer.MAX_VALUE, 256, 32, 65536, -128};
            for (int other : others) {
                due("ahead, alike, told by none", signs(signs).ahead(other, other), BAD);
                due("ahead, a " + other, signs(signs).ahead(other, 0), BAD);
                due("ahead, b " + other, signs(signs).ahead(0, other), BAD);
            }
        }
    }

    private static void eightAtMost() {
        sentence("TOLD AHEAD (8 at most); ahead: how many. FULL");
        WhaleTown x = signs(4);
        int[][] pairs = {{0, 1}, {0, 2}, {0, 3}, {1, 2}, {1, 3}, {2, 3}, {0, 1}, {0, 3}};
        for (int i = 0; i < 8; i++) {
            due("ahead, number " + (i + 1), x.ahead(pairs[i][0], pairs[i][1]), i + 1);
            due("count(5)", x.count(5), i + 1);
        }
        due("the ninth", x.ahead(3, 0), FULL);
        due("the ninth, told already", x.ahead(0, 1), FULL);
        due("count(5)", x.count(5), 8);
        due("first(), the ninth is not told", x.first(), 1);
        due("orders(), the ninth is not told", x.orders(), 1);
        due("forget()", x.forget(), 8);
        due("ahead, anew", x.ahead(3, 0), 1);
    }

    private static void badAheadOfFull() {
        sentence("ahead: BAD (alike, too); FULL. Of several the first");
        WhaleTown x = told(4, "01", "01", "01", "01", "01", "01", "01", "01");
        for (int a = -1; a <= 4; a++) {
            for (int b = -1; b <= 4; b++) {
                boolean so = a >= 0 && a < 4 && b >= 0 && b < 4 && a != b;
                due("ahead(" + a + ", " + b + "), full", x.ahead(a, b), so ? FULL : BAD);
            }
        }
        due("count(5)", x.count(5), 8);
        due("first()", x.first(), 13);
        due("orders()", x.orders(), 12);
    }

    private static void eachTellingCounts() {
        sentence("ahead: how many: told twice, told both ways");
        WhaleTown x = told(2, "01", "01", "10");
        due("count(5)", x.count(5), 3);
        due("forget()", x.forget(), 3);
    }

    // ---- 21

    private static void forgetTellsHowMany() {
        sentence("forget: Nothing is TOLD AHEAD: how many were");
        for (int many = 0; many <= 8; many++) {
            WhaleTown x = signs(4);
            for (int i = 0; i < many; i++) {
                x.ahead(i % 2 == 0 ? 3 : 2, i % 2 == 0 ? 2 : 3);
            }
            due("forget() of " + many, x.forget(), many);
            due("forget() again", x.forget(), 0);
            due("count(5)", x.count(5), 0);
            due("first()", x.first(), 15);
            due("orders()", x.orders(), 24);
            due("ahead, anew", x.ahead(0, 1), 1);
            due("first(), anew", x.first(), 13);
            due("orders(), anew", x.orders(), 12);
        }
    }

    private static void forgetLeavesTheRest() {
        sentence("forget: TOLD AHEAD alone is empty then");
        WhaleTown x = days("s0,1,2,3;s0,2,2,2;w1,1;h3,3;", 3, 1, 0, 0);
        x.keep();
        x.ahead(0, 1);
        x.forget();
        dueCounts("forgotten", x, 2, 1, 0, 1, 2, 0, 1, 28, 3);
    }

    // ---- 22, 23

    private static void nothingIsTold() {
        sentence("first, orders: nothing is TOLD: all SIGNS, all orders");
        for (int signs = 1; signs <= 4; signs++) {
            dueOrders((1 << signs) - 1, FACTORIALS[signs], signs);
        }
    }

    private static void oneIsTold() {
        sentence("first: of whom none is TOLD ahead; orders: in how many orders all that is TOLD is so");
        for (int signs = 2; signs <= 4; signs++) {
            for (int a = 0; a < signs; a++) {
                for (int b = 0; b < signs; b++) {
                    if (a != b) {
                        int rest = (1 << signs) - 1 - (1 << b);
                        dueOrders(rest, FACTORIALS[signs] / 2, signs, "" + a + b);
                        // Twice the same tells no more.
                        dueOrders(rest, FACTORIALS[signs] / 2, signs, "" + a + b, "" + a + b);
                    }
                }
            }
        }
    }

    private static void allInARow() {
        sentence("first, orders: one order alone is left");
        dueOrders(1, 1, 2, "01");
        dueOrders(2, 1, 2, "10");
        dueOrders(4, 1, 3, "21", "10");
        dueOrders(8, 1, 4, "32", "21", "10");
        dueOrders(1, 1, 4, "23", "01", "12");
        dueOrders(4, 1, 4, "20", "03", "31", "21", "20", "23", "01", "31");
    }

    private static void someOfThem() {
        sentence("first, orders: some are TOLD ahead of others");
        dueOrders(11, 8, 4, "02", "12");
        dueOrders(9, 8, 4, "01", "02");
        dueOrders(5, 6, 4, "01", "23");
        dueOrders(1, 6, 4, "01", "02", "03");
        dueOrders(7, 6, 4, "03", "13", "23");
        dueOrders(3, 4, 4, "02", "03", "12", "13");
        dueOrders(1, 2, 4, "01", "02", "13", "23");
        dueOrders(9, 4, 4, "01", "12");
        dueOrders(3, 2, 3, "02", "12");
        dueOrders(5, 5, 4, "01", "23", "03");
    }

    private static void goesRound() {
        sentence("first: 0, if what is TOLD goes round; orders: none is so then");
        dueOrders(0, 0, 2, "01", "10");
        dueOrders(0, 0, 3, "01", "12", "20");
        dueOrders(0, 0, 4, "01", "12", "23", "30");
        dueOrders(0, 0, 4, "03", "32", "21", "10");
        // Two that go round, beside others of whom none is TOLD ahead.
        for (int a = 0; a < 4; a++) {
            for (int b = a + 1; b < 4; b++) {
                dueOrders(0, 0, 4, "" + a + b, "" + b + a);
            }
        }
        dueOrders(0, 0, 4, "01", "12", "20");
        dueOrders(0, 0, 4, "12", "23", "31");
        // Ahead of what goes round, and behind it.
        dueOrders(0, 0, 4, "01", "12", "23", "31");
        dueOrders(0, 0, 4, "01", "12", "20", "23");
        dueOrders(0, 0, 4, "01", "10", "23", "32");
        // The eighth alone makes it go round.
        dueOrders(1, 1, 4, "01", "02", "03", "12", "13", "23", "03");
        dueOrders(0, 0, 4, "01", "02", "03", "12", "13", "23", "03", "32");
    }

    private static void ofAllSigns() {
        sentence("orders: orders of all SIGNS, seen in THE DIARY or not");
        WhaleTown x = days(DULL.repeat(3), 0, 0, 1, 0);
        due("orders()", x.orders(), 6);
        due("first()", x.first(), 7);
        WhaleTown y = days("s0,0,0,0;s0,4,4,4;", 3, 0);
        y.ahead(0, 1);
        due("orders(), THE DIARY could not be", y.orders(), 1);
        due("first(), THE DIARY could not be", y.first(), 1);
    }

    // ---- 24

    private static void emptyDiary() {
        sentence("FEIGNED: none (THE DIARY is empty)");
        WhaleTown x = new WhaleTown();
        due("feigned(), new", x.feigned(), NONE);
        x.day(1, 0);
        x.undo();
        due("feigned(), undone", x.feigned(), NONE);
        x.keep();
        x.day(1, 0);
        x.back();
        due("feigned(), back to an empty one", x.feigned(), NONE);
    }

    private static void oneDay() {
        sentence("FEIGNED: of one DAY, as its SIGNS are not looked at");
        dueFeigned(1, "s0,4,4,4;", 1, 0);
        dueFeigned(1, "s0,4,4,4;", 0, 0);
        dueFeigned(1, "s0,0,0,0;", 1, 0);
        dueFeigned(1, "a4,4,4;s0,2,2,2;w4,1;", 0, 1);
    }

    private static void allAlike() {
        sentence("FEIGNED: the DAYS (bits; 0 the first): all of several that are alike");
        for (int days = 1; days <= 5; days++) {
            int[] dull = new int[2 * days];
            dueFeigned((1 << days) - 1, DULL, dull);
            int[] sure = new int[2 * days];
            for (int d = 0; d < days; d++) {
                sure[2 * d] = 15;
            }
            // The greatest numbers: four SIGNS that surely are seen on all DAYS but one.
            dueFeigned((1 << days) - 1, "a4,4,0;" + "s0,4,4,4;".repeat(4), sure);
        }
    }

    private static void oneOfFive() {
        sentence("FEIGNED: by which that is most");
        for (int d = 0; d < 5; d++) {
            int[] seen = {1, 0, 1, 0, 1, 0, 1, 0, 1, 0};
            seen[2 * d] = 0;
            dueFeigned(1 << d, "a0,4,4;s0,4,4,4;", seen);
            dueFeigned(1 << d, "a0,4,4;s0,3,4,4;", seen);
            // One of four against two of four, twice with the greatest numbers beside these.
            int[] most = {15, 0, 15, 0, 15, 0, 15, 0, 15, 0};
            most[2 * d] = 7;
            dueFeigned(1 << d, "a0,4,4;s0,4,4,4;s0,4,4,4;s0,4,4,4;s0,3,3,3;", most);
            dueFeigned(31 - (1 << d), "a0,4,4;s0,4,4,4;s0,4,4,4;s0,4,4,4;s0,1,1,1;", most);
            dueFeigned(31, "a0,4,4;s0,4,4,4;s0,4,4,4;s0,4,4,4;s0,2,2,2;", most);
        }
        dueFeigned(5, "a0,4,4;s0,3,3,3;", 0, 0, 1, 0, 0, 0, 1, 0, 1, 0);
        dueFeigned(24, "a0,4,4;s0,3,3,3;", 1, 0, 1, 0, 1, 0, 0, 0, 0, 0);
    }

    private static void notByWhichever() {
        sentence("FEIGNED: none (could not be by whichever)");
        // Two DAYS that could not be: whichever is left out, the other one is there.
        for (int a = 0; a < 5; a++) {
            for (int b = 0; b < 5; b++) {
                int[] seen = {1, 0, 1, 0, 1, 0, 1, 0, 1, 0};
                seen[2 * a] = 0;
                seen[2 * b] = 0;
                dueFeigned(a == b ? 1 << a : NONE, "a4,4,0;s0,4,4,4;", seen);
            }
        }
        dueFeigned(NONE, "s0,4,4,4;", 0, 0, 0, 0);
        dueFeigned(2, "s0,4,4,4;", 1, 0, 0, 0);
        dueFeigned(1, "s0,4,4,4;", 0, 0, 1, 0);
    }

    private static void daysByWhichItIsNothing() {
        sentence("FEIGNED: DAYS by which it could not be are not those by which that is most");
        // Whichever is left out but the second, the second could not be.
        dueFeigned(2, "a0,4,4;s0,4,4,4;s0,2,2,2;", 1, 0, 0, 0, 3, 0);
    }

    private static void worksAreLookedAt() {
        sentence("FEIGNED: its WORKS are looked at; that it did not TURN, too");
        // It must have TURNED on the third DAY, by its WORKS or by itself.
        dueFeigned(NONE, "a4,4,4;" + DULL, 0, 0, 0, 0, 0, 0);
        dueFeigned(NONE, "a4,4,0;" + DULL + "w4,1;", 0, 0, 0, 0, 0, 1);
        dueFeigned(7, "a4,4,0;" + DULL + "w4,1;", 0, 0, 0, 0, 0, 0);
        dueFeigned(3, "a4,4,4;" + DULL, 0, 0, 0, 0);
        // By the WORKS of the first DAY it is LIGHT, in which the SIGN of the second DAY is never seen.
        dueFeigned(2, "a0,0,0;s0,2,0,0;w4,1;", 0, 1, 1, 0);
        dueFeigned(3, "a0,0,0;s0,2,0,0;w4,1;", 1, 0, 1, 0);
        dueFeigned(NONE, "a0,0,0;s0,2,0,0;w4,1;", 1, 1, 1, 0, 1, 0);
    }

    private static void feignedChangesNothing() {
        sentence("FEIGNED: the SIGNS are not looked at, but they are told");
        WhaleTown x = days("a2,2,2;s0,1,3,0;", 1, 0, 0, 0);
        long above = x.belief(1, 0);
        long below = x.belief(1, 1);
        due("feigned()", x.feigned(), 1);
        due("feigned() again", x.feigned(), 1);
        dueShare("belief(1)", x.belief(1, 0), x.belief(1, 1), above, below);
        due("diary(0, 0)", x.diary(0, 0), 1);
    }

    // ---- 25

    private static void springsThatAreTold() {
        sentence("spring: z (0 to 9999), WORKS, the DAY (what = 0), how many STIRRING (1). BAD");
        WhaleTown[] towns = {new WhaleTown(), laid("a0,0,0;" + DULL + "w4,1;w4,1;w4,1;")};
        for (WhaleTown x : towns) {
            for (int what = 0; what <= 1; what++) {
                int w = what;
                dueTold("spring z", 0, 9999, z -> x.spring(z, 0, w));
                dueTold("spring works", 0, 7, set -> x.spring(5000, set, w));
            }
            dueTold("spring what", 0, 1, what -> x.spring(0, 0, what));
            dueTold("spring what", 0, 1, what -> x.spring(9999, 7, what));
            due("all BAD", x.spring(10000, 8, 2), BAD);
        }
        for (int works = 0; works <= 5; works++) {
            WhaleTown x = laid(DULL + "w1,1;".repeat(works));
            dueTold("spring works of " + works, 0, (1 << works) - 1, set -> x.spring(1, set, 0));
        }
    }

    private static void theFirstAndTheLastSpring() {
        sentence("SPRING by z (0 to 9999): of the first numbers and the last ones");
        // DRAW modulo 4 on DAY 1, ..: 1, 3, 0, 0, .. for 0; 2, 2, 2, 0, 3, 1, 0 for 1; 3, 2, 3, 0, 1, 2, 0 for 9998.
        dueSpring("a1,2,1;" + DULL, 0, 0, 12, 8);
        dueSpring(DULL, 0, 0, 12, 8);
        dueSpring("a2,2,2;" + DULL, 0, 0, 4, 1);
        dueSpring("a1,2,1;" + DULL, 1, 0, 7, 1);
        dueSpring(DULL, 1, 0, 10, 3);
        dueSpring("a1,2,1;" + DULL, 9998, 0, 7, 2);
        dueSpring(DULL, 9998, 0, 10, 3);
        dueSpring("a1,2,1;" + DULL, 9999, 0, 10, 4);
        dueSpring(DULL, 9999, 0, 14, 4);
        dueSpring("a4,1,4;" + DULL, 9999, 0, 11, 1);
        dueSpring("a3,2,1;" + DULL, 5000, 0, 7, 4);
    }

    private static void theEarliestDay() {
        sentence("SPRING: the DAY on which it TURNS (1 to 60): by one step a DAY on DAY 3 first");
        WhaleTown x = laid("a4,4,4;" + DULL);
        for (int z = 0; z < 10000; z += 41) {
            due("spring(" + z + ")", x.spring(z, 0, 0), 3);
            due("stirring(" + z + ")", x.spring(z, 0, 1), 1);
        }
        dueSpring("a0,0,0;" + DULL + "w4,1;w4,1;w4,1;w4,1;w4,1;", 0, 31, 3, 1);
        dueSpring("a0,0,0;" + DULL + "w4,1;w4,1;w4,1;w4,1;w4,1;", 0, 16, 3, 1);
    }

    private static void theLatestDays() {
        sentence("SPRING: the DAY on which it TURNS (1 to 60; none by then)");
        dueSpring(DULL, 3514, 0, 57, 33);
        dueSpring(DULL, 2363, 0, 57, 15);
        // These would TURN on DAYS 62, 65, 65 and 68.
        dueSpring(DULL, 6927, 0, NONE, 20);
        dueSpring(DULL, 2192, 0, NONE, 17);
        dueSpring(DULL, 9742, 0, NONE, 12);
        dueSpring(DULL, 5007, 0, NONE, 9);
    }

    private static void howManyStirring() {
        sentence("SPRING: at the end of how many DAYS (to 60) it was STIRRING");
        WhaleTown stirring = laid("a4,4,0;" + DULL);
        WhaleTown light = laid("a4,0,4;" + DULL);
        WhaleTown deep = laid("a0,4,4;" + DULL);
        for (int z = 0; z < 10000; z += 43) {
            due("from DAY 2 to DAY 60", stirring.spring(z, 0, 1), 59);
            due("never TURNS", stirring.spring(z, 0, 0), NONE);
            due("LIGHT is not STIRRING", light.spring(z, 0, 1), 0);
            due("never TURNS", deep.spring(z, 0, 0), NONE);
        }
        due("DEEP is not STIRRING", deep.spring(0, 0, 1), 0);
        // STIRRING from DAY 52 on, the latest of all.
        dueSpring("a1,1,0;" + DULL, 870, 0, NONE, 9);
        dueSpring("a1,1,0;" + DULL, 5007, 0, NONE, 9);
        // The DAY on which it TURNS is none of these.
        dueSpring("a4,4,1;" + DULL, 0, 0, 3, 1);
        dueSpring("a4,4,1;" + DULL, 1, 0, 4, 2);
        dueSpring("a4,4,1;" + DULL, 9999, 0, 10, 8);
    }

    private static long draw(long z, long d) {
        long x = (7919 * z + 6151 * d + 1) % 65521;
        return x * x % 65521 / 8;
    }

    /** The DAY on which it TURNS and how many STIRRING, reckoned step by step from the DAY on which each SLEEP ends. */
    private static int[] springOf(int z, int... chances) {
        int[] ends = new int[3];
        int d = 0;
        for (int sleep = 0; sleep < 3; sleep++) {
            d++;
            while (d <= 60 && draw(z, d) % 4 >= chances[sleep]) {
                d++;
            }
            ends[sleep] = Math.min(d, 61);
            d = ends[sleep];
        }
        return new int[] {ends[2] > 60 ? NONE : ends[2], ends[1] > 60 ? 0 : ends[2] - ends[1]};
    }

    private static void allSprings() {
        sentence("SPRING by z: DRAW, for each z that is told");
        int[][] towns = {{1, 1, 1}, {2, 3, 1}};
        for (int[] town : towns) {
            String text = "a" + town[0] + "," + town[1] + "," + town[2] + ";" + DULL;
            WhaleTown x = laid(text);
            int calls = 0;
            for (int z = 0; z <= 9999; z++) {
                if (calls > MOST_CALLS - 30) {
                    x = laid(text);
                    calls = 0;
                }
                int[] spring = springOf(z, town);
                due("spring(" + z + ", 0, 0) of " + text, x.spring(z, 0, 0), spring[0]);
                due("spring(" + z + ", 0, 1) of " + text, x.spring(z, 0, 1), spring[1]);
                calls += 2;
            }
        }
    }

    private static void chanceAndNoise() {
        sentence("SPRING with WORKS: less than the chance of its SLEEP and NOISE, on each DAY");
        for (int noise = 0; noise <= 4; noise++) {
            for (int own = 0; own <= 4; own++) {
                int together = Math.min(4, own + noise);
                WhaleTown x = laid("a" + own + "," + own + "," + own + ";" + DULL + "w" + noise + ",1;");
                for (int z = 0; z < 10000; z += 997) {
                    int[] spring = springOf(z, together, together, together);
                    due("spring by " + own + " and " + noise, x.spring(z, 1, 0), spring[0]);
                    due("stirring by " + own + " and " + noise, x.spring(z, 1, 1), spring[1]);
                    int[] quiet = springOf(z, own, own, own);
                    due("spring by " + own, x.spring(z, 0, 0), quiet[0]);
                    due("stirring by " + own, x.spring(z, 0, 1), quiet[1]);
                }
            }
        }
    }

    private static void nothingChangesByIt() {
        sentence("SPRING: nothing changes by it; it starts as at first, whatever THE DIARY tells");
        WhaleTown x = days("a4,4,1;s0,0,0,0;", 0, 0, 0, 0);
        dueShare("belief(2)", x.belief(2, 0), x.belief(2, 1), 1, 1);
        due("spring(1, 0, 0)", x.spring(1, 0, 0), 4);
        due("spring(1, 0, 1)", x.spring(1, 0, 1), 2);
        dueShare("belief(2)", x.belief(2, 0), x.belief(2, 1), 1, 1);
        due("count(4)", x.count(4), 2);
        x.day(1, 0);
        due("belief(2), THE DIARY could not be", x.belief(2, 0), NONE);
        due("spring(1, 0, 0)", x.spring(1, 0, 0), 4);
        due("spring(1, 0, 1)", x.spring(1, 0, 1), 2);
    }

    public static void main(String[] args) {
        signsThatAreTold();
        eightAtMost();
        badAheadOfFull();
        eachTellingCounts();
        forgetTellsHowMany();
        forgetLeavesTheRest();
        nothingIsTold();
        oneIsTold();
        allInARow();
        someOfThem();
        goesRound();
        ofAllSigns();
        emptyDiary();
        oneDay();
        allAlike();
        oneOfFive();
        notByWhichever();
        daysByWhichItIsNothing();
        worksAreLookedAt();
        feignedChangesNothing();
        springsThatAreTold();
        theFirstAndTheLastSpring();
        theEarliestDay();
        theLatestDays();
        howManyStirring();
        allSprings();
        chanceAndNoise();
        nothingChangesByIt();
        end();
    }
}
