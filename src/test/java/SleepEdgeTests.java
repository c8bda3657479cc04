/** The edges of promises 11 to 16: how it sleeps by THE DIARY, and what is to come. One function for each sentence. */
public final class SleepEdgeTests extends Due {
    /** THE SLEEP ahead of a DAY and in it, the text by which it surely is so, and on which DAY. */
    private static final int[][] STEPS = {{0, 0}, {0, 1}, {1, 1}, {1, 2}, {2, 2}};
    private static final String[] STEP_TEXTS = {"a0,4,4;", "a4,0,4;", "a4,0,4;", "a4,4,0;", "a4,4,0;"};
    private static final int[] STEP_DAYS = {1, 1, 2, 2, 3};
    /** A SIGN that cannot be unseen: a DAY without it could not be. */
    private static final String SURE = "s0,4,4,4;";

    private static void dueBelief(String name, WhaleTown x, long deep, long light, long stirring) {
        long[] ways = {deep, light, stirring};
        long all = deep + light + stirring;
        for (int sleep = 0; sleep < 3; sleep++) {
            long above = x.belief(sleep, 0);
            long below = x.belief(sleep, 1);
            due(name + ": belief(" + sleep + ") is " + above + " of " + below, above * all, ways[sleep] * below);
            due(name + ": belief(" + sleep + ") in lowest terms", gcd(above, below), 1);
        }
    }

    private static long gcd(long a, long b) {
        return b == 0 ? a : gcd(b, a % b);
    }

    private static void dueNoBelief(String name, WhaleTown x) {
        for (int i = 0; i < 6; i++) {
            due(name + ": belief(" + i / 2 + ", " + i % 2 + ")", x.belief(i / 2, i % 2), NONE);
        }
    }

    private static void dueNear(WhaleTown x, int n, int works, long above, long below) {
        dueShare("near(" + n + ", " + works + ")", x.near(n, works, 0), x.near(n, works, 1), above, below);
    }

    /** In fours, sixteens, .. : the share in lowest terms. */
    private static void dueSight(WhaleTown x, int k, int works, long above, long below) {
        long common = gcd(above, below);
        dueShare("sight(" + k + ", " + works + ")", x.sight(k, works, 0), x.sight(k, works, 1), above / common, below / common);
    }

    private static void dueBoard(String name, WhaleTown x, int works, int k, long above, long below) {
        due(name + ": board k", x.board(works, 0), k);
        dueShare(name + ": board costs", x.board(works, 1), x.board(works, 2), above, below);
    }

    private static void dueQuiet(String name, WhaleTown x, int percent, int set, int gain) {
        due(name + ": quiet(" + percent + ", 0)", x.quiet(percent, 0), set);
        due(name + ": quiet(" + percent + ", 1)", x.quiet(percent, 1), gain);
    }

    private static WhaleTown with(String text, int... signsOfDays) {
        WhaleTown x = laid(text);
        for (int d = 0; d < signsOfDays.length; d++) {
            due("day(" + signsOfDays[d] + ", 0)", x.day(signsOfDays[d], 0), d + 1);
        }
        return x;
    }

    private static String worksOf(int many) {
        return "w1,1;".repeat(many);
    }

    // ---- how it goes on

    private static void fourAtMost() {
        sentence("a chance of four, that of its SLEEP and all NOISE of WORKS that go on that DAY, 4 at most");
        for (int i = 0; i < 25; i++) {
            int own = i / 5;
            int noise = i % 5;
            int chance = own + noise > 4 ? 4 : own + noise;
            String works = DULL + "w" + noise + ",0;";
            WhaleTown deep = laid("a" + own + ",4,4;" + works);
            deep.day(0, 1);
            dueBelief("DEEP, " + own + " and " + noise, deep, 4 - chance, chance, 0);
            WhaleTown light = with("a4," + own + ",4;" + works, 0);
            light.day(0, 1);
            dueBelief("LIGHT, " + own + " and " + noise, light, 0, 4 - chance, chance);
            WhaleTown stirring = with("a4,4," + own + ";" + works, 0, 0);
            long common = gcd(chance, 4);
            dueNear(stirring, 1, 1, chance / common, 4 / common);
            stirring.day(0, 1);
            if (chance == 4) {
                dueNoBelief("STIRRING, " + own + " and " + noise, stirring);
            } else {
                dueBelief("STIRRING, " + own + " and " + noise, stirring, 0, 0, 1);
            }
        }
    }

    private static void allNoiseTogether() {
        sentence("all NOISE of WORKS that go on that DAY, 4 at most, however much it is");
        WhaleTown x = laid("a0,0,0;" + DULL + "w4,1;".repeat(5));
        WhaleTown y = laid("a0,0,0;" + DULL + "w1,1;".repeat(5));
        int[] cubes = {0, 1, 1, 27, 1, 1};
        int[] below = {1, 64, 8, 64, 1, 1};
        for (int set = 0; set < 32; set++) {
            dueNear(x, 3, set, set == 0 ? 0 : 1, 1);
            int many = Integer.bitCount(set);
            dueNear(y, 3, set, cubes[many], below[many]);
            y.day(0, set);
            dueBelief("noise " + many, y, 4 - Math.min(4, many), Math.min(4, many), 0);
            y.undo();
        }
    }

    private static void oneStepADay() {
        sentence("to the next one, or it TURNS: never two of these on a DAY");
        WhaleTown x = laid("a4,4,4;" + DULL + "w4,1;".repeat(5));
        dueBelief("no DAY", x, 1, 0, 0);
        dueNear(x, 1, 31, 0, 1);
        dueNear(x, 2, 31, 0, 1);
        dueNear(x, 3, 31, 1, 1);
        x.day(0, 31);
        dueBelief("one DAY", x, 0, 1, 0);
        dueNear(x, 1, 31, 0, 1);
        dueNear(x, 2, 31, 1, 1);
        dueNear(x, 3, 31, 1, 1);
        x.day(0, 31);
        dueBelief("two DAYS", x, 0, 0, 1);
        dueNear(x, 1, 31, 1, 1);
        dueNear(x, 2, 31, 1, 1);
        dueNear(x, 3, 31, 1, 1);
        x.day(0, 31);
        dueNoBelief("three DAYS", x);
    }

    private static void neverGoesOn() {
        sentence("a chance of four: 0 is never");
        WhaleTown deep = with("a0,4,4;" + DULL, 0, 1, 0, 1, 0);
        dueBelief("DEEP stays", deep, 1, 0, 0);
        dueNear(deep, 3, 0, 0, 1);
        WhaleTown light = with("a4,0,4;" + DULL, 0, 1, 0, 1, 0);
        dueBelief("LIGHT stays", light, 0, 1, 0);
        dueNear(light, 3, 0, 0, 1);
        WhaleTown stirring = with("a4,4,0;" + DULL, 0, 1, 0, 1, 0);
        dueBelief("STIRRING stays", stirring, 0, 0, 1);
        dueNear(stirring, 3, 0, 0, 1);
    }

    private static void noiseOfThatDay() {
        sentence("NOISE of WORKS that go on that DAY, not of another DAY");
        WhaleTown x = laid("a0,0,0;" + DULL + "w1,0;w2,0;");
        x.day(0, 1);
        dueBelief("noise 1", x, 3, 1, 0);
        x.day(0, 0);
        dueBelief("none then", x, 3, 1, 0);
        x.day(0, 2);
        // DEEP 3 by 2; LIGHT 3 by 2 and 1 by 2; STIRRING 2.
        dueBelief("noise 2 then", x, 6, 8, 2);
        x.day(0, 3);
        // By 3: DEEP 6; LIGHT 18 and 8; STIRRING 24 and 2.
        dueBelief("noise 3 then", x, 6, 26, 26);
        x.day(0, 0);
        dueBelief("none then", x, 6, 26, 26);
        dueNear(x, 3, 0, 0, 1);
    }

    private static void itDidNotTurn() {
        sentence("THE DIARY tells that it did not TURN");
        // DEEP, LIGHT, STIRRING by 2 of four each day, and STIRRING turns by 3 of four.
        WhaleTown x = laid("a2,2,3;" + DULL);
        long[] ways = {1, 0, 0};
        for (int d = 1; d <= 5; d++) {
            x.day(d % 2, 0);
            ways = new long[] {2 * ways[0], 2 * ways[0] + 2 * ways[1], 2 * ways[1] + ways[2]};
            dueBelief("DAYS " + d, x, ways[0], ways[1], ways[2]);
        }
        WhaleTown y = with("a4,4,3;" + DULL, 0, 0, 0, 0, 0);
        dueBelief("three DAYS of 1 in four", y, 0, 0, 1);
        dueNear(y, 1, 0, 3, 4);
    }

    // ---- SIGNS

    private static int chanceOf(int kind, int[] numbers, int ahead, int now) {
        int number = numbers[kind == 1 ? ahead : now];
        return kind == 2 ? 4 - number : number;
    }

    /** A SIGN by number p in one SLEEP, 2 in the others: seen as it is due in each step from SLEEP to SLEEP. */
    private static void dueSeen(int kind, int sleep, int p) {
        int[] numbers = {2, 2, 2};
        numbers[sleep] = p;
        String sign = "s" + kind + "," + numbers[0] + "," + numbers[1] + "," + numbers[2] + ";";
        for (int i = 0; i < STEPS.length; i++) {
            WhaleTown x = laid(STEP_TEXTS[i] + sign);
            int chance = 0;
            for (int d = 1; d <= STEP_DAYS[i]; d++) {
                int step = d == STEP_DAYS[i] ? i : d == 1 ? 1 : 3;
                chance = chanceOf(kind, numbers, STEPS[step][0], STEPS[step][1]);
                if (d < STEP_DAYS[i]) {
                    x.day(chance > 0 ? 1 : 0, 0);
                }
            }
            String name = STEP_TEXTS[i] + sign + " on day " + STEP_DAYS[i];
            long common = gcd(chance, 4);
            dueShare(name, x.sight(0, 0, 0), x.sight(0, 0, 1), chance / common, 4 / common);
            x.day(1, 0);
            due(name + ", seen", x.belief(STEPS[i][1], 0), chance == 0 ? NONE : 1);
            x.undo();
            x.day(0, 0);
            due(name + ", not seen", x.belief(STEPS[i][1], 0), chance == 4 ? NONE : 1);
        }
    }

    private static void plainSigns() {
        sentence("PLAIN ones by the chance of the SLEEP it is in then (each 0 to 4)");
        for (int i = 0; i < 15; i++) {
            dueSeen(0, i / 5, i % 5);
        }
    }

    private static void lateSigns() {
        sentence("LATE ones by that of the SLEEP it was in ahead of the DAY (each 0 to 4)");
        for (int i = 0; i < 15; i++) {
            dueSeen(1, i / 5, i % 5);
        }
    }

    private static void falseSigns() {
        sentence("FALSE ones by 4 less that of the SLEEP it is in (each 0 to 4)");
        for (int i = 0; i < 15; i++) {
            dueSeen(2, i / 5, i % 5);
        }
    }

    private static void pairedFirst() {
        sentence("PAIRED: SIGN 0: as PLAIN");
        for (int i = 0; i < 15; i++) {
            dueSeen(3, i / 5, i % 5);
        }
    }

    private static void pairedSigns() {
        sentence("PAIRED ones as PLAIN ones, if the SIGN of the number ahead is seen that DAY, else never");
        for (int p = 0; p <= 4; p++) {
            WhaleTown x = laid("a0,4,4;s0,2,0,0;s3," + p + ",4,4;");
            dueSight(x, 1, 0, 2 * p, 16);
            x.day(3, 0);
            due("both seen by " + p, x.belief(0, 0), p == 0 ? NONE : 1);
            x.undo();
            x.day(1, 0);
            due("the one ahead alone by " + p, x.belief(0, 0), p == 4 ? NONE : 1);
            x.undo();
            x.day(2, 0);
            due("it alone by " + p, x.belief(0, 0), NONE);
            x.undo();
            x.day(0, 0);
            due("none of both by " + p, x.belief(0, 0), 1);
        }
    }

    private static void pairedToTheNumberAhead() {
        sentence("PAIRED: if the SIGN of the number ahead is seen that DAY: that one, not another one or another DAY");
        WhaleTown x = laid("a0,4,4;s0,2,2,2;s0,2,2,2;s0,2,2,2;s3,2,2,2;");
        for (int set = 0; set < 16; set++) {
            x.day(set, 0);
            due("seen " + set, x.belief(0, 0), (set & 12) == 8 ? NONE : 1);
            x.undo();
        }
        x.day(4, 0);
        x.day(8, 0);
        due("the one ahead on the DAY ahead", x.belief(0, 0), NONE);
        WhaleTown y = laid("a0,4,4;s0,2,2,2;s3,2,2,2;s3,2,2,2;s3,2,2,2;");
        boolean[] can = new boolean[16];
        can[0] = can[1] = can[3] = can[7] = can[15] = true;
        for (int set = 0; set < 16; set++) {
            y.day(set, 0);
            due("in a row, seen " + set, y.belief(0, 0), can[set] ? 1 : NONE);
            y.undo();
        }
        dueSight(y, 3, 0, 1, 16);
    }

    private static void pairedToEachKind() {
        sentence("PAIRED behind each KIND: if that SIGN is seen as it is seen");
        // In LIGHT for the first time: by 3 PLAIN, by 1 (DEEP) LATE, by 4 less 3 FALSE, by 3 PAIRED (SIGN 0).
        int[] ahead = {3, 1, 1, 3};
        for (int kind = 0; kind < 4; kind++) {
            WhaleTown x = laid("a4,0,0;s" + kind + ",1,3,0;s3,0,2,0;");
            dueSight(x, 0, 0, ahead[kind], 4);
            dueSight(x, 1, 0, ahead[kind] * 2, 16);
        }
        WhaleTown y = laid("a4,0,0;s3,1,3,0;s3,0,2,0;s2,0,1,0;s3,4,3,4;");
        dueSight(y, 2, 0, 3, 4);
        dueSight(y, 3, 0, 9, 16);
        // SIGN 0 is seen by 3 of four, and the one behind it by 2 of four then: 3 by 2 to 3 by 2 to 1 by 4.
        y.day(12, 0);
        dueBelief("by numbers", y, 0, 1, 0);
    }

    private static void signsForThemselves() {
        sentence("each SIGN is seen or not, by number, for itself");
        WhaleTown x = laid("a2,0,0;s0,1,3,0;s0,3,2,0;");
        int[][] ways = {{3 * 1, 1 * 2}, {1 * 1, 3 * 2}, {3 * 3, 1 * 2}, {1 * 3, 3 * 2}};
        for (int set = 0; set < 4; set++) {
            x.day(set, 0);
            dueBelief("seen " + set, x, ways[set][0], ways[set][1], 0);
            x.undo();
        }
        // On two DAYS alike: each DAY for itself.
        x.day(1, 0);
        x.day(1, 0);
        // DEEP 1 by 2 by 1; LIGHT (1 by 2 and 6 by 4) by 6.
        dueBelief("seen twice", x, 2, 26 * 6, 0);
    }

    // ---- 11

    private static void sleepsThatAreTold() {
        sentence("belief: SLEEP 0 to 2; above (part = 0), below (1). BAD");
        WhaleTown[] towns = {new WhaleTown(), with("a1,1,1;" + DULL, 0, 1, 0, 1, 0), with(SURE, 0)};
        for (WhaleTown x : towns) {
            for (int part = 0; part <= 1; part++) {
                int p = part;
                dueTold("belief sleep", 0, 2, sleep -> x.belief(sleep, p));
            }
            for (int sleep = 0; sleep <= 2; sleep++) {
                int s = sleep;
                dueTold("belief part", 0, 1, part -> x.belief(s, part));
            }
            due("TURNED is no SLEEP", x.belief(3, 0), BAD);
            due("both BAD", x.belief(3, 2), BAD);
        }
    }

    private static void emptyDiaryIsDeep() {
        sentence("BELIEF of a SLEEP by an empty DIARY: At first its SLEEP is DEEP");
        String[] texts = {"a0,0,0;", "a4,4,4;", "", "a1,2,1;w4,1;"};
        for (String text : texts) {
            WhaleTown x = laid(text + SURE);
            dueShare("DEEP", x.belief(0, 0), x.belief(0, 1), 1, 1);
            dueShare("LIGHT", x.belief(1, 0), x.belief(1, 1), 0, 1);
            dueShare("STIRRING", x.belief(2, 0), x.belief(2, 1), 0, 1);
        }
    }

    private static void lowestTerms() {
        sentence("belief: in lowest terms");
        WhaleTown x = laid("a2,0,0;s0,2,0,0;");
        x.day(0, 0);
        dueShare("DEEP, 4 of 12", x.belief(0, 0), x.belief(0, 1), 1, 3);
        dueShare("LIGHT, 8 of 12", x.belief(1, 0), x.belief(1, 1), 2, 3);
        dueShare("STIRRING, 0 of 12", x.belief(2, 0), x.belief(2, 1), 0, 1);
        x.day(1, 0);
        dueShare("DEEP, all", x.belief(0, 0), x.belief(0, 1), 1, 1);
        dueShare("LIGHT, none", x.belief(1, 0), x.belief(1, 1), 0, 1);
        // Nothing is alike in these: each by 3, 2, 1 of four or so on five DAYS.
        WhaleTown y = with("a3,1,1;s0,3,2,1;s0,3,2,1;s0,3,2,1;s0,3,2,1;", 15, 15, 15, 15, 15);
        long[] ways = {1, 0, 0};
        for (int d = 0; d < 5; d++) {
            ways = new long[] {ways[0] * 81, (3 * ways[0] + 3 * ways[1]) * 16, ways[1] + 3 * ways[2]};
        }
        long all = ways[0] + ways[1] + ways[2];
        for (int sleep = 0; sleep < 3; sleep++) {
            long common = gcd(ways[sleep], all);
            dueShare("belief " + sleep, y.belief(sleep, 0), y.belief(sleep, 1), ways[sleep] / common, all / common);
        }
    }

    private static void diaryThatCouldNotBe() {
        sentence("belief: none (THE DIARY could not be)");
        dueNoBelief("a sure SIGN is not seen", with(SURE, 0));
        dueNoBelief("a SIGN that never is", with("s0,0,0,0;", 1));
        dueNoBelief("on the first of five DAYS", with(SURE, 0, 1, 1, 1, 1));
        dueNoBelief("on the last of five DAYS", with(SURE, 1, 1, 1, 1, 0));
        dueNoBelief("in the midst of five DAYS", with(SURE, 1, 1, 0, 1, 1));
        dueNoBelief("it must have TURNED", with("a4,4,4;" + DULL, 0, 0, 0));
        // Seen in LIGHT alone, but LIGHT is not on the first DAY.
        dueNoBelief("a SIGN of a SLEEP that could not be", with("a0,4,4;s0,0,4,0;", 1));
        WhaleTown x = with("a1,1,1;s0,4,4,0;", 0);
        dueNoBelief("a SIGN of STIRRING on the first DAY", x);
        x.undo();
        x.day(1, 0);
        x.day(0, 0);
        dueBelief("a SIGN of STIRRING on the second DAY", x, 0, 0, 1);
    }

    // ---- 12

    private static void daysToCome() {
        sentence("near: n (1 to 3) DAYS to come; above (part = 0), below (1). BAD");
        WhaleTown[] towns = {new WhaleTown(), with("a1,1,1;" + DULL, 0, 1, 0, 1, 0), with(SURE, 0)};
        for (WhaleTown x : towns) {
            dueTold("near n", 1, 3, n -> x.near(n, 0, 0));
            dueTold("near n, below", 1, 3, n -> x.near(n, 0, 1));
            dueTold("near part", 0, 1, part -> x.near(1, 0, part));
            dueTold("near part of 3", 0, 1, part -> x.near(3, 0, part));
            due("all BAD", x.near(0, -1, 2), BAD);
        }
    }

    private static void worksToCome() {
        sentence("near, sight, tells, board: WORKS, such as there are; sets of these. BAD");
        for (int works = 0; works <= 5; works++) {
            int last = (1 << works) - 1;
            WhaleTown[] towns = {laid(DULL + worksOf(works)), with(SURE + worksOf(works), 0)};
            for (WhaleTown x : towns) {
                dueTold("near works of " + works, 0, last, set -> x.near(1, set, 0));
                dueTold("sight works of " + works, 0, last, set -> x.sight(0, set, 0));
                dueTold("tells works of " + works, 0, last, set -> x.tells(set));
                dueTold("board works of " + works, 0, last, set -> x.board(set, 0));
            }
        }
    }

    private static void nearFromEachSleep() {
        sentence("near: how likely it TURNS in these n DAYS");
        // From STIRRING by 1 of four; from LIGHT by 2 and 1; from DEEP by 3, 2 and 1.
        int[][] above = {{0, 0, 3}, {0, 1, 9}, {1, 7, 37}};
        int[][] below = {{1, 1, 32}, {1, 8, 32}, {4, 16, 64}};
        String[] texts = {"a3,2,1;s0,4,2,2;", "a3,2,1;s0,0,4,2;", "a3,2,1;s0,0,2,4;"};
        WhaleTown[] towns = {laid(texts[0]), with(texts[1], 1), with("a4,4,0;" + DULL + "w1,0;", 0, 0)};
        for (int sleep = 0; sleep < 3; sleep++) {
            dueBelief("surely " + sleep, towns[sleep], sleep == 0 ? 1 : 0, sleep == 1 ? 1 : 0, sleep == 2 ? 1 : 0);
            for (int n = 1; n <= 3; n++) {
                dueNear(towns[sleep], n, sleep == 2 ? 1 : 0, above[sleep][n - 1], below[sleep][n - 1]);
            }
        }
        WhaleTown sure = with("a4,4,4;" + DULL, 0, 0);
        WhaleTown never = with("a4,4,0;" + DULL, 0, 0);
        for (int n = 1; n <= 3; n++) {
            dueNear(sure, n, 0, 1, 1);
            dueNear(never, n, 0, 0, 1);
        }
    }

    private static void nearByBelief() {
        sentence("near: by all of THE DIARY, by the WORKS to come, not by those that went on");
        WhaleTown x = laid("a0,0,0;" + DULL + "w2,0;w1,0;");
        x.day(0, 1);
        x.day(0, 1);
        dueBelief("noise 2 twice", x, 1, 2, 1);
        dueNear(x, 3, 0, 0, 1);
        // STIRRING 1 by 1, 7/4, 37/16 of four; LIGHT 2 by 1/16 and 10/64; DEEP 1 by 1/64.
        dueNear(x, 1, 2, 1, 16);
        dueNear(x, 2, 2, 9, 64);
        dueNear(x, 3, 2, 29, 128);
        WhaleTown y = with(SURE, 0);
        for (int n = 1; n <= 3; n++) {
            due("near, above", y.near(n, 0, 0), NONE);
            due("near, below", y.near(n, 0, 1), NONE);
        }
    }

    // ---- 13

    private static void signsThatAreTold() {
        sentence("sight: a SIGN, such as there are; above (part = 0), below (1). BAD");
        for (int signs = 1; signs <= 4; signs++) {
            WhaleTown[] towns = {laid(SURE.repeat(signs)), with(SURE.repeat(signs), 0),
                with("a4,4,4;" + DULL.repeat(signs), 0, 0)};
            for (WhaleTown x : towns) {
                dueTold("sight k of " + signs, 0, signs - 1, k -> x.sight(k, 0, 0));
                dueTold("sight part of " + signs, 0, 1, part -> x.sight(0, 0, part));
                due("all BAD", x.sight(signs, 1, 2), BAD);
            }
        }
    }

    private static void neverAndSurely() {
        sentence("sight: in lowest terms: never is 0 of 1, surely 1 of 1");
        WhaleTown x = laid("a1,1,1;s0,0,0,0;s0,4,4,4;s2,4,4,4;s3,4,4,4;");
        for (int d = 0; d <= 5; d++) {
            dueSight(x, 0, 0, 0, 1);
            dueSight(x, 1, 0, 1, 1);
            dueSight(x, 2, 0, 0, 1);
            dueSight(x, 3, 0, 0, 1);
            x.day(2, 0);
        }
    }

    private static void surelyTurns() {
        sentence("sight: none (it surely TURNS)");
        for (int own = 0; own <= 4; own++) {
            for (int noise = 0; noise <= 4; noise++) {
                WhaleTown x = with("a4,4," + own + ";s0,2,2,1;w" + noise + ",1;", 0, 0);
                if (own + noise < 4) {
                    dueSight(x, 0, 1, 1, 4);
                    due("tells(1)", x.tells(1), 0);
                } else {
                    due("sight above by " + own + " and " + noise, x.sight(0, 1, 0), NONE);
                    due("sight below by " + own + " and " + noise, x.sight(0, 1, 1), NONE);
                    due("tells by " + own + " and " + noise, x.tells(1), NONE);
                }
            }
        }
    }

    private static void notSurelyTurns() {
        sentence("sight: if it does not TURN: from LIGHT it does not, so it does not surely TURN");
        // LIGHT or STIRRING: where it is STIRRING it TURNS, where it is LIGHT it goes on to STIRRING.
        WhaleTown x = laid("a4,2,4;s0,2,2,3;s1,2,1,2;w2,1;");
        x.day(0, 0);
        x.day(0, 0);
        dueBelief("LIGHT unseen by 2 and 3, STIRRING by 1 and 3", x, 0, 2, 1);
        dueSight(x, 0, 1, 3, 4);
        dueSight(x, 1, 1, 1, 4);
        dueSight(x, 0, 0, 5, 8);
        due("tells", x.tells(1), 0);
        dueNear(x, 1, 1, 1, 3);
        WhaleTown y = with("a4,4,4;s0,2,1,3;");
        dueSight(y, 0, 0, 1, 4);
        y.day(0, 0);
        dueSight(y, 0, 0, 3, 4);
        y.day(0, 0);
        due("it surely TURNS now", y.sight(0, 0, 0), NONE);
        y.undo();
        dueSight(y, 0, 0, 3, 4);
    }

    private static void sightWithoutADiary() {
        sentence("sight, tells: none also if THE DIARY could not be");
        WhaleTown x = with(SURE + SURE, 3, 1, 3);
        for (int k = 0; k < 2; k++) {
            due("sight above", x.sight(k, 0, 0), NONE);
            due("sight below", x.sight(k, 0, 1), NONE);
        }
        due("tells", x.tells(0), NONE);
    }

    private static void sightIfItDoesNotTurn() {
        sentence("sight: if it does not TURN: of those ways alone");
        // From STIRRING by 2 of four; LIGHT or STIRRING by one half each.
        WhaleTown x = laid("a4,2,2;s0,0,4,0;" + DULL);
        x.day(1, 0);
        x.day(0, 0);
        dueBelief("STIRRING, as it is not seen", x, 0, 0, 1);
        dueSight(x, 0, 0, 0, 1);
        dueSight(x, 1, 0, 1, 2);
        WhaleTown y = laid("a4,2,2;s1,0,4,0;" + DULL);
        y.day(0, 0);
        y.day(1, 0);
        dueBelief("LIGHT or STIRRING", y, 0, 1, 1);
        // LIGHT 4 of 8 ways, STIRRING 2 of 8 that do not turn.
        dueSight(y, 0, 0, 2, 3);
    }

    // ---- 14

    private static void nearestToOneHalf() {
        sentence("tells: which SIGN's chance of SIGHT is nearest to one half (the difference, either way, least)");
        int[] away = {2, 1, 0, 1, 2};
        for (int p = 0; p <= 4; p++) {
            for (int q = 0; q <= 4; q++) {
                WhaleTown x = laid("a0,1,1;s0," + p + ",1,1;s0," + q + ",1,1;");
                due("tells of " + p + " and " + q, x.tells(0), away[q] < away[p] ? 1 : 0);
            }
        }
    }

    private static void eachSignCanTellMost() {
        sentence("tells: of several the first");
        String dull = "s0,0,0,0;";
        String sure = "s0,4,4,4;";
        for (int signs = 1; signs <= 4; signs++) {
            due("all never", laid(dull.repeat(signs)).tells(0), 0);
            due("all surely", laid(sure.repeat(signs)).tells(0), 0);
            due("all by one half", laid(DULL.repeat(signs)).tells(0), 0);
            for (int best = 0; best < signs; best++) {
                String text = dull.repeat(best) + "s0,2,2,2;" + sure.repeat(signs - best - 1);
                due("tells of " + text, laid(text).tells(0), best);
                String nearly = sure.repeat(best) + "s0,3,3,3;" + "s0,1,1,1;".repeat(signs - best - 1);
                due("tells of " + nearly, laid(nearly).tells(0), best);
            }
        }
    }

    private static void tellsBySight() {
        sentence("tells: by SIGHT: with WORKS, by KIND, by THE DIARY");
        WhaleTown x = laid("a0,0,0;s0,4,2,0;s1,2,4,4;s2,0,0,2;w4,1;");
        due("DEEP stays", x.tells(0), 1);
        due("DEEP goes on to LIGHT", x.tells(1), 0);
        x.day(6, 1);
        due("behind DEEP, LIGHT stays", x.tells(0), 0);
        due("LIGHT goes on to STIRRING", x.tells(1), 2);
        // A PAIRED one by 3 of four behind one by 3 of four is seen by 9 of 16, nearer than 3 of four.
        due("PAIRED", laid("s0,3,3,3;s3,3,3,3;").tells(0), 1);
        due("PAIRED behind another", laid("s0,3,3,3;s3,2,2,2;s3,4,4,4;").tells(0), 1);
    }

    // ---- 15

    private static void whatOfBoard() {
        sentence("board: k (what = 0), what it costs: above (1), below (2). BAD");
        WhaleTown[] towns = {new WhaleTown(), with("a1,1,1;" + DULL, 0, 1, 0, 1, 0), with(SURE, 0)};
        for (WhaleTown x : towns) {
            dueTold("board what", 0, 2, what -> x.board(0, what));
            due("both BAD", x.board(-1, 3), BAD);
        }
        WhaleTown x = with(SURE, 0);
        for (int what = 0; what <= 2; what++) {
            due("board, THE DIARY could not be", x.board(0, what), NONE);
        }
    }

    private static void eachDayOfBoarding() {
        sentence("board: behind k (0 to 3) of the next 3 DAYS: the k that costs least");
        WhaleTown x = laid("a4,4,4;" + DULL + "l99,9;");
        // 27, 18, 9, 99; 27, 18, 108, 99; 27, 117, 108, 99.
        dueBoard("DEEP", x, 0, 2, 9, 1);
        x.day(0, 0);
        dueBoard("LIGHT", x, 0, 1, 18, 1);
        x.day(0, 0);
        dueBoard("STIRRING", x, 0, 0, 27, 1);
        // 27, 18, 9, 8; 27, 18, 17, 8; 27, 26, 17, 8.
        WhaleTown y = laid("a4,4,4;" + DULL + "l8,9;");
        for (int d = 0; d < 3; d++) {
            dueBoard("a cheap turn", y, 0, 3, 8, 1);
            y.day(0, 0);
        }
        due("THE DIARY could not be", y.board(0, 0), NONE);
    }

    private static void boardByWorks() {
        sentence("board: with WORKS: how likely it TURNS by these");
        WhaleTown x = laid("a0,0,0;" + DULL + "w4,1;w1,1;l64,5;");
        dueBoard("never", x, 0, 3, 0, 1);
        dueBoard("surely", x, 1, 2, 5, 1);
        // 15, 10, 5, 1.
        dueBoard("by 1 of 64", x, 2, 3, 1, 1);
    }

    private static void boardOfSeveralTheFirst() {
        sentence("board: the k that costs least, of several the first");
        // STIRRING: V is 3 E, it surely TURNS: 27, 45, 36, 27.
        dueBoard("0 and 3", with("a4,4,4;" + DULL + "l27,9;", 0, 0), 0, 0, 27, 1);
        dueBoard("3, V is one less", with("a4,4,4;" + DULL + "l26,9;", 0, 0), 0, 3, 26, 1);
        // LIGHT: 27, 18, 27, 18.
        dueBoard("1 and 3", with("a4,4,4;" + DULL + "l18,9;", 0), 0, 1, 18, 1);
        dueBoard("3, V is one less", with("a4,4,4;" + DULL + "l17,9;", 0), 0, 3, 17, 1);
        // LIGHT by 1 and 1 of four: 3, 2, 1 and 16 by 1/16, 16 by 5/32.
        dueBoard("1 and 2", with("a4,1,1;" + DULL + "l16,1;", 0), 0, 1, 2, 1);
        dueBoard("2, V is one less", with("a4,1,1;" + DULL + "l15,1;", 0), 0, 2, 31, 16);
        // DEEP by 1, 1, 1 of four: 3, 2, 1, 64 by 1/64.
        dueBoard("2 and 3", laid(DULL + "l64,1;"), 0, 2, 1, 1);
        dueBoard("3, V is one less", laid(DULL + "l63,1;"), 0, 3, 63, 64);
        // LIGHT and STIRRING alike: 3, 2 and 8 by 1/8, 1 and 8 by 11/32, 8 by 65/128.
        WhaleTown x = with("a2,4,1;s0,0,2,2;l8,1;", 0, 1);
        dueBelief("LIGHT and STIRRING", x, 0, 1, 1);
        dueBoard("0 and 1", x, 0, 0, 3, 1);
        dueBoard("1, V is one less", with("a2,4,1;s0,0,2,2;l7,1;", 0, 1), 0, 1, 23, 8);
        // DEEP 1, STIRRING 2, with noise 1: 21, 14 and 48 by 1/6, 7 and 48 by 7/24, 48 by 43/96.
        WhaleTown y = with("a2,4,0;s0,2,0,1;w1,0;l48,7;", 0, 1);
        dueBelief("DEEP and STIRRING", y, 1, 0, 2);
        dueBoard("0 and 2", y, 1, 0, 21, 1);
        dueBoard("2, V is one less", with("a2,4,0;s0,2,0,1;w1,0;l47,7;", 0, 1), 1, 2, 497, 24);
    }

    private static void costsFromEndToEnd() {
        sentence("board: V (0 to 99), E (0 to 9)");
        String text = "a4,4,1;" + DULL;
        dueBoard("nothing costs", with(text + "l0,0;", 0, 0), 0, 0, 0, 1);
        dueBoard("the boats cost nothing", with(text + "l99,0;", 0, 0), 0, 0, 0, 1);
        dueBoard("a turn costs nothing", with(text + "l0,9;", 0, 0), 0, 3, 0, 1);
        dueBoard("both cost most", with(text + "l99,9;", 0, 0), 0, 0, 27, 1);
        // 3, 2 and 1/4, 1 and 7/16, 37/64.
        dueBoard("both cost least", with(text + "l1,1;", 0, 0), 0, 3, 37, 64);
        WhaleTown never = with("a0,0,0;" + DULL + "l99,9;", 0, 0, 0, 0, 0);
        dueBoard("it never TURNS", never, 0, 3, 0, 1);
    }

    private static void greatestNumbers() {
        sentence("board, near, quiet: of five DAYS, four SIGNS, V 99 and E 9: no number is too great");
        int[] seen = {15, 15, 15, 15, 15};
        WhaleTown never = with("a4,4,0;" + SURE.repeat(4) + "w4,1;w3,1;l99,9;", seen);
        // 27, 117 and on; by 3 of four: 27, 18 and 99 by 3/4, ..
        dueBoard("surely", never, 1, 0, 27, 1);
        dueBoard("by 3 of four", never, 2, 0, 27, 1);
        dueBoard("never", never, 0, 3, 0, 1);
        dueNear(never, 3, 2, 63, 64);
        dueQuiet("by 3 of four", never, 98, 0, 0);
        dueQuiet("by 3 of four", never, 99, 2, 1);
        WhaleTown dear = with("a4,4,0;" + SURE.repeat(4) + "w4,1;l99,0;", seen);
        dueBoard("the boats cost nothing", dear, 1, 0, 0, 1);
        WhaleTown cheap = with("a4,4,0;" + SURE.repeat(4) + "w4,1;w3,1;l26,9;", seen);
        dueBoard("surely, V is 26", cheap, 1, 3, 26, 1);
        // 27, 18 and 26 by 3/4 is 37.5, .., 26 by 63/64.
        dueBoard("by 3 of four, V is 26", cheap, 2, 3, 819, 32);
        WhaleTown late = with("a4,0,4;" + SURE.repeat(4) + "w4,1;w3,1;l99,9;", seen);
        dueBoard("LIGHT, surely in two", late, 1, 1, 18, 1);
        dueSight(late, 3, 2, 1, 1);
    }

    // ---- 16

    private static void ofAHundred() {
        sentence("quiet: x (0 to 100); which WORKS (what = 0), what they bring (1). BAD");
        WhaleTown[] towns = {new WhaleTown(), with("a1,1,1;" + DULL, 0, 1, 0, 1, 0), with(SURE, 0),
            with("a4,4,4;" + DULL, 0, 0)};
        for (WhaleTown x : towns) {
            dueTold("quiet x", 0, 100, percent -> x.quiet(percent, 0));
            dueTold("quiet x, brings", 0, 100, percent -> x.quiet(percent, 1));
            dueTold("quiet what", 0, 1, what -> x.quiet(50, what));
            due("both BAD", x.quiet(-1, 2), BAD);
        }
    }

    private static void noMoreThanThat() {
        sentence("quiet: it TURNS in these by no more than x of a hundred");
        // Noise 1, 2, 3, 4 from DEEP: 1, 8, 27, 64 of 64.
        int[] from = {2, 13, 43, 100};
        for (int noise = 1; noise <= 4; noise++) {
            WhaleTown x = laid("a0,0,0;" + DULL + "w" + noise + ",7;");
            for (int percent = 0; percent <= 100; percent++) {
                boolean quiet = percent >= from[noise - 1];
                dueQuiet("noise " + noise, x, percent, quiet ? 1 : 0, quiet ? 7 : 0);
            }
        }
        // In three DAYS from STIRRING by 1, 2, 3, 4 of four: 37, 56, 63, 64 of 64.
        int[] first = {0, 58, 88, 99, 100};
        for (int chance = 0; chance <= 4; chance++) {
            WhaleTown x = with("a4,4," + chance + ";" + DULL, 0, 0);
            if (chance > 0) {
                dueQuiet("by " + chance, x, first[chance] - 1, NONE, NONE);
                dueQuiet("by " + chance, x, 0, NONE, NONE);
            }
            dueQuiet("by " + chance, x, first[chance], 0, 0);
            dueQuiet("by " + chance, x, 100, 0, 0);
        }
    }

    private static void exactlyThat() {
        sentence("quiet: no more than x of a hundred: x exactly is no more, the least bit beyond is");
        // By noise on both DAYS it is DEEP, unseen by 2 of four, then seen by 2, or LIGHT, never seen, then STIRRING.
        // DEEP never goes on by itself, STIRRING surely TURNS: noise, R, and how many of a hundred that is.
        int[][] towns = {{2, 1, 50}, {2, 3, 75}, {2, 4, 80}, {1, 1, 10}, {1, 3, 25}};
        for (int[] town : towns) {
            WhaleTown x = laid("a0,0,4;s0,2,0," + town[1] + ";w" + town[0] + ",5;w0,9;");
            x.day(0, 1);
            x.day(1, 1);
            long common = gcd(town[2], 100);
            for (int n = 1; n <= 3; n++) {
                dueNear(x, n, 2, town[2] / common, 100 / common);
            }
            dueQuiet("one less than " + town[2], x, town[2] - 1, NONE, NONE);
            dueQuiet("exactly " + town[2], x, town[2], 2, 9);
        }
        // By 4 of 7 and by 2 of 3: 57 of a hundred and a bit, 66 and a bit.
        WhaleTown seventh = laid("a0,0,4;s0,1,0,1;w2,5;w0,9;");
        seventh.day(0, 1);
        seventh.day(1, 1);
        dueNear(seventh, 3, 2, 4, 7);
        dueQuiet("4 of 7", seventh, 57, NONE, NONE);
        dueQuiet("4 of 7", seventh, 58, 2, 9);
        WhaleTown third = laid("a0,0,4;s0,2,0,2;w2,5;w0,9;");
        third.day(0, 1);
        third.day(1, 1);
        dueNear(third, 3, 2, 2, 3);
        dueQuiet("2 of 3", third, 66, NONE, NONE);
        dueQuiet("2 of 3", third, 67, 2, 9);
    }

    private static void nearlyNeverAndNearlySurely() {
        sentence("quiet: 0 of a hundred is never, and what is not sure is more than 99");
        WhaleTown rare = laid("a0,0,4;" + "s0,3,0,1;".repeat(4) + "w1,0;");
        rare.day(0, 1);
        rare.day(15, 1);
        // DEEP by 3, 3 and 81, LIGHT seen by nothing; STIRRING by 1, 256, 1, 1.
        dueNear(rare, 3, 0, 256, 256 + 9 * 81);
        WhaleTown x = laid("a0,0,4;" + "s0,3,3,1;".repeat(4) + "w1,0;");
        x.day(15, 0);
        x.day(15, 0);
        x.day(15, 0);
        x.day(15, 1);
        x.day(15, 1);
        // DEEP 9 by 81, LIGHT 6 by 81, STIRRING 1: 1 of 1216, and LIGHT goes on to nothing.
        dueNear(x, 3, 0, 1, 1216);
        dueQuiet("1 of 1216", x, 0, NONE, NONE);
        dueQuiet("1 of 1216", x, 1, 0, 0);
        WhaleTown y = laid("a0,4,4;" + "s0,1,4,4;".repeat(4) + "w2,0;");
        y.day(15, 0);
        y.day(15, 1);
        // DEEP 2 by 1 and LIGHT 2 by 256: LIGHT surely TURNS in two DAYS.
        dueNear(y, 2, 0, 256, 257);
        dueQuiet("256 of 257", y, 99, NONE, NONE);
        dueQuiet("256 of 257", y, 100, 0, 0);
        WhaleTown never = laid("a0,4,4;" + DULL);
        dueQuiet("never", never, 0, 0, 0);
        dueQuiet("never", never, 100, 0, 0);
        WhaleTown surely = laid("a4,4,4;" + DULL);
        dueQuiet("surely", surely, 99, NONE, NONE);
        dueQuiet("surely", surely, 100, 0, 0);
    }

    private static void bringsMostOfSeveralTheLowest() {
        sentence("quiet: that which brings most a day, of several the lowest (bits)");
        dueQuiet("all bring nothing", laid("a0,4,4;" + DULL + "w0,0;".repeat(5)), 0, 0, 0);
        dueQuiet("all bring nothing, all loud", laid(DULL + "w4,0;".repeat(5)), 100, 0, 0);
        dueQuiet("the greatest set", laid(DULL + "w4,20;".repeat(5)), 100, 31, 100);
        dueQuiet("the empty set alone", laid("a0,4,4;" + DULL + "w1,20;".repeat(5)), 0, 0, 0);
        dueQuiet("the last alone", laid("a0,4,4;" + DULL + "w1,20;".repeat(4) + "w0,1;"), 0, 16, 1);
        // No two of these are quiet enough: the first of those that bring as much.
        dueQuiet("one of five", laid("a0,0,0;" + DULL + "w2,7;".repeat(5)), 13, 1, 7);
        dueQuiet("one of five, the second brings more", laid("a0,0,0;" + DULL + "w2,7;w2,8;w2,8;w2,7;w2,8;"), 13, 2, 8);
        dueQuiet("two of five", laid("a0,0,0;" + DULL + "w1,3;w1,5;w1,4;w1,5;w1,4;"), 13, 10, 10);
        dueQuiet("two of five, several", laid("a0,0,0;" + DULL + "w1,5;w1,4;w1,5;w1,4;w1,5;"), 13, 5, 10);
        // Two small ones bring as much as a great one: 3 is lower than 4, and 1 lower than 6.
        dueQuiet("two or one", laid("a0,0,0;" + DULL + "w1,5;w1,5;w2,10;"), 13, 3, 10);
        dueQuiet("one or two", laid("a0,0,0;" + DULL + "w2,10;w1,5;w1,5;"), 13, 1, 10);
        dueQuiet("those that bring nothing stay away", laid("a0,0,0;" + DULL + "w0,0;w1,5;w0,0;"), 100, 2, 5);
    }

    private static void quietWithoutWorks() {
        sentence("quiet: of sets of WORKS, the empty one too, when there are no WORKS");
        WhaleTown x = laid("a0,4,4;" + DULL);
        dueQuiet("no WORKS", x, 0, 0, 0);
        WhaleTown y = with("a4,4,4;" + DULL, 0);
        dueQuiet("no WORKS, it surely TURNS", y, 99, NONE, NONE);
        dueQuiet("no WORKS, it surely TURNS", y, 100, 0, 0);
    }

    private static void quietInThreeDays() {
        sentence("quiet: going on in the next 3 DAYS, it TURNS in these");
        // In two DAYS never, in three by 1 of 64.
        WhaleTown x = laid(DULL);
        dueQuiet("three DAYS", x, 1, NONE, NONE);
        dueQuiet("three DAYS", x, 2, 0, 0);
        // The WORKS go on on each DAY: in LIGHT by noise 4 on two of them.
        WhaleTown y = with("a4,0,0;" + DULL + "w4,1;", 0);
        dueQuiet("noise on two DAYS", y, 99, 0, 0);
        dueQuiet("noise on two DAYS", y, 100, 1, 1);
        // What went on is not what goes on.
        WhaleTown z = laid("a0,0,0;" + DULL + "w4,1;w0,2;");
        z.day(0, 1);
        z.day(0, 1);
        dueQuiet("loud WORKS that went on", z, 0, 2, 2);
    }

    private static void quietWithoutADiary() {
        sentence("quiet: none (none is, THE DIARY could not be)");
        WhaleTown x = with(SURE + "w0,20;", 0);
        for (int percent = 0; percent <= 100; percent++) {
            dueQuiet("could not be", x, percent, NONE, NONE);
        }
        x.undo();
        dueQuiet("undone", x, 2, 1, 20);
    }

    public static void main(String[] args) {
        fourAtMost();
        allNoiseTogether();
        oneStepADay();
        neverGoesOn();
        noiseOfThatDay();
        itDidNotTurn();
        plainSigns();
        lateSigns();
        falseSigns();
        pairedFirst();
        pairedSigns();
        pairedToTheNumberAhead();
        pairedToEachKind();
        signsForThemselves();
        sleepsThatAreTold();
        emptyDiaryIsDeep();
        lowestTerms();
        diaryThatCouldNotBe();
        daysToCome();
        worksToCome();
        nearFromEachSleep();
        nearByBelief();
        signsThatAreTold();
        neverAndSurely();
        surelyTurns();
        notSurelyTurns();
        sightWithoutADiary();
        sightIfItDoesNotTurn();
        nearestToOneHalf();
        eachSignCanTellMost();
        tellsBySight();
        whatOfBoard();
        eachDayOfBoarding();
        boardByWorks();
        boardOfSeveralTheFirst();
        costsFromEndToEnd();
        greatestNumbers();
        ofAHundred();
        noMoreThanThat();
        exactlyThat();
        nearlyNeverAndNearlySurely();
        bringsMostOfSeveralTheLowest();
        quietWithoutWorks();
        quietInThreeDays();
        quietWithoutADiary();
        end();
    }
}
