/** For each promise of the document: ordinary inputs, the edges that it names, wrong inputs. Answers reckoned by hand. */
public final class PromiseTests extends Due {
    private static void promise01NewObject() {
        due("BAD", WhaleTown.BAD, -1);
        due("NO", WhaleTown.NO, -2);
        due("FULL", WhaleTown.FULL, -3);
        due("NONE", WhaleTown.NONE, -4);
        dueCounts("new", new WhaleTown(), 4, 4, 3, 3, 0, 0, 0, 0, 15);
        WhaleTown x = new WhaleTown();
        int[][] signs = {{0, 1, 2, 3}, {1, 0, 2, 4}, {2, 4, 3, 1}, {3, 2, 2, 2}};
        for (int k = 0; k < 4; k++) {
            for (int what = 0; what < 4; what++) {
                due("new sign(" + k + ", " + what + ")", x.sign(k, what), signs[k][what]);
            }
        }
        due("new fault()", x.fault(), NONE);
        due("new lay()", x.lay(), NO);
        due("new wipe()", x.wipe(), 0);
        // What is at first is what its text tells.
        WhaleTown y = laid(FIRST);
        for (int works = 0; works < 8; works++) {
            due("new works", x.works(works, 0), y.works(works, 0));
            due("new works", x.works(works, 1), y.works(works, 1));
            due("new near", x.near(3, works, 0), y.near(3, works, 0));
            due("new board", x.board(works, 1), y.board(works, 1));
            due("new spring", x.spring(7, works, 0), y.spring(7, works, 0));
        }
        for (int t = 0; t < 100; t++) {
            due("new saved", x.saved(t), y.saved(t));
        }
    }

    private static void promise02Write() {
        WhaleTown x = new WhaleTown();
        due("write(31)", x.write(31), BAD);
        due("write(127)", x.write(127), BAD);
        due("write(-1)", x.write(-1), BAD);
        due("write(MIN)", x.write(Integer.MIN_VALUE), BAD);
        due("write(MAX)", x.write(Integer.MAX_VALUE), BAD);
        due("write(32)", x.write(32), 1);
        due("write(126)", x.write(126), 2);
        for (int i = 3; i <= 200; i++) {
            due("write", x.write('a'), i);
        }
        due("write, full", x.write('a'), FULL);
        due("write, full and bad", x.write(127), BAD);
        due("count(7), full", x.count(7), 200);
    }

    private static void promise03Wipe() {
        WhaleTown x = new WhaleTown();
        write(x, "zz");
        due("fault()", x.fault(), 0);
        due("wipe()", x.wipe(), 2);
        due("wipe() again", x.wipe(), 0);
        due("fault(), wiped", x.fault(), NONE);
        due("write, wiped", x.write('s'), 1);
        due("fault(), no letter of old", x.fault(), 0);
    }

    private static void promise04Fault() {
        String[] right = {"", "a0,0,0;", "a4,4,4;", "s0,0,0,0;", "s3,4,4,4;", "h1,0;", "h9,60;", "b1;", "b30;", "w0,0;", "w4,20;",
            "l0,0;", "l99,9;", "a01,02,03;", "b01;", "l00,00;", "a1,1,1;a2,2,2;l1,1;l2,2;", FIRST,
            "s0,1,1,1;s0,1,1,1;s0,1,1,1;s0,1,1,1;", "h1,1;h1,1;h1,1;h1,1;h1,1;h1,1;", "b1;b1;b1;b1;", "w1,1;w1,1;w1,1;w1,1;w1,1;"};
        for (String text : right) {
            due("fault() of " + text, faultOf(text), NONE);
        }
        String[] faulty = {"a5,0,0;", "a0,5,0;", "a0,0,5;", "a1,1;", "a1,1,1,1;", "s4,0,0,0;", "s0,5,0,0;", "s0,0,5,0;", "s0,0,0,5;",
            "s0,0,0;", "s0,0,0,0,0;", "h0,0;", "h10,0;", "h1,61;", "h1;", "h1,1,1;", "b0;", "b31;", "b1,1;", "b;", "w5,0;", "w0,21;",
            "w0;", "w0,0,0;", "l1,10;", "l1;", "l100,1;", "l1,1,1;", "b001;", "b1", "b", "b1,;", "b,1;", "b1;;", " b1;", "b1 ;", "B1;",
            ";", ",", "1;", "x1;", "b-1;", "b+1;", "b1.;", "a1,1,1", "a1,,1;", "b1:", "b/;", "l1,1/", "h1;1;"};
        for (String text : faulty) {
            int place = text.equals("b1;;") ? 3 : 0;
            due("fault() of " + text, faultOf(text), place);
            due("fault() behind b1;w1,1;, of " + text, faultOf("b1;w1,1;" + text), place + 8);
        }
        due("first of two faults", faultOf("s0,1,1,1;b0;h0,0;"), 9);
        due("a fifth sign", faultOf("s0,1,1,1;s0,1,1,1;b1;s0,1,1,1;s0,1,1,1;s0,1,1,1;b1;"), 39);
        due("a seventh house", faultOf("h1,1;h1,1;h1,1;h1,1;h1,1;h1,1;h1,1;"), 30);
        due("a fifth boat", faultOf("b1;b1;b1;b1;b1;"), 12);
        due("sixth works", faultOf("w1,1;w1,1;w1,1;w1,1;w1,1;w1,1;"), 25);
        // As long as a text can be, to its last letter; and one that ends amid an item there.
        due("fault() of the longest", faultOf("l1,2;".repeat(40)), NONE);
        due("fault() at the end of the longest", faultOf("l1,2;".repeat(39) + "l1,22"), 195);
    }

    private static void promise05Lay() {
        WhaleTown x = new WhaleTown();
        x.day(1, 1);
        x.keep();
        x.ahead(0, 1);
        write(x, "b1;");
        due("lay() without a sign", x.lay(), NO);
        dueCounts("lay() without a sign", x, 4, 4, 3, 3, 1, 1, 1, 3, 15);
        x.wipe();
        write(x, "s0,1,1,1;b0;");
        due("lay() of a fault", x.lay(), NO);
        dueCounts("lay() of a fault", x, 4, 4, 3, 3, 1, 1, 1, 12, 15);
        x.wipe();
        String text = "h9,1;s1,1,2,3;b7;w1,2;s2,4,3,2;b9;h2,2;h1,60;w4,20;b30;w3,3;b1;w0,0;";
        write(x, text);
        due("lay()", x.lay(), 2);
        dueCounts("lay()", x, 2, 3, 4, 4, 0, 0, 0, text.length(), 12);
        due("back(), laid", x.back(), NO);
        due("undo(), laid", x.undo(), NO);
        due("forget(), laid", x.forget(), 0);
        due("lay() again, the text stays", x.lay(), 2);
        // Of several the last one counts; without: 1, 1, 1 and 60, 5.
        WhaleTown y = laid("a4,4,4;l1,1;s0,1,1,1;a0,4,4;l99,9;");
        due("the last a counts", y.near(3, 0, 0), 0);
        due("the last l counts", y.board(0, 1), 0);
        WhaleTown z = laid("s0,1,1,1;l7,3;a4,4,4;");
        dueShare("near of a4,4,4", z.near(3, 0, 0), z.near(3, 0, 1), 1, 1);
        dueShare("board of l7,3", z.board(0, 1), z.board(0, 2), 3, 1);
        z.wipe();
        write(z, "s0,1,1,1;");
        z.lay();
        // 1/64 in three days; 60/64, never more than 15 for three in the boats.
        dueShare("near without a", z.near(3, 0, 0), z.near(3, 0, 1), 1, 64);
        due("board without l, k", z.board(0, 0), 3);
        dueShare("board without l", z.board(0, 1), z.board(0, 2), 15, 16);
        due("no works, no houses", z.count(1) + z.count(2) + z.count(3), 0);
        relaid();
    }

    /** Nothing of what was laid before is left, and nothing of a text that is not laid comes in. */
    private static void relaid() {
        WhaleTown x = new WhaleTown();
        for (int i = 0; i < 3; i++) {
            x.wipe();
            write(x, "s1,2,3,4;a4,4,4;l1,9;h9,9;b9;w2,2;");
            due("lay()", x.lay(), 1);
            due("board of l1,9, k", x.board(0, 0), 3);
            dueShare("board of l1,9", x.board(0, 1), x.board(0, 2), 1, 1);
            due("people", x.count(8), 9);
            x.wipe();
            write(x, "a4,4,4;s3,0,0,0;b0;");
            due("lay() of a fault", x.lay(), NO);
            due("fault()", x.fault(), 16);
            due("the sign that is laid", x.sign(0, 0), 1);
            dueCounts("what is laid", x, 1, 1, 1, 1);
            x.wipe();
            write(x, "a4,4,4;s3,0,0,0;");
            due("lay()", x.lay(), 1);
            // 15, 10, 5, 60: it turns on day 3.
            due("board without l, k", x.board(0, 0), 2);
            dueShare("board without l", x.board(0, 1), x.board(0, 2), 5, 1);
            dueCounts("what is laid", x, 1, 0, 0, 0);
        }
        x.wipe();
        write(x, "s0,0,0,0;s0,0,0,0;");
        x.lay();
        x.day(0, 0);
        x.day(0, 0);
        x.day(0, 0);
        dueShare("belief without a", x.belief(0, 0), x.belief(0, 1), 3, 7);
    }

    private static void promise06Sign() {
        WhaleTown x = laid("s2,4,3,1;s3,0,4,2;");
        int[] want = {2, 4, 3, 1, 3, 0, 4, 2};
        for (int i = 0; i < 8; i++) {
            due("sign", x.sign(i / 4, i % 4), want[i]);
        }
        due("sign(2, 0)", x.sign(2, 0), BAD);
        due("sign(-1, 0)", x.sign(-1, 0), BAD);
        due("sign(0, 4)", x.sign(0, 4), BAD);
        due("sign(0, -1)", x.sign(0, -1), BAD);
        due("sign(MAX, 0)", x.sign(Integer.MAX_VALUE, 0), BAD);
    }

    private static void promise07Works() {
        WhaleTown x = laid("s0,1,1,1;w4,20;w3,7;w4,0;w0,5;w4,20;");
        due("works(0, 0)", x.works(0, 0), 0);
        due("works(0, 1)", x.works(0, 1), 0);
        due("works(1, 0)", x.works(1, 0), 4);
        due("works(10, 0)", x.works(10, 0), 3);
        due("works(10, 1)", x.works(10, 1), 12);
        due("works(31, 0), more than 4 together", x.works(31, 0), 15);
        due("works(31, 1)", x.works(31, 1), 52);
        due("works(32, 0)", x.works(32, 0), BAD);
        due("works(-1, 0)", x.works(-1, 0), BAD);
        due("works(1, 2)", x.works(1, 2), BAD);
        due("works(1, -1)", x.works(1, -1), BAD);
        WhaleTown y = laid("s0,1,1,1;");
        due("works(0, 1), none there", y.works(0, 1), 0);
        due("works(1, 0), none there", y.works(1, 0), BAD);
    }

    private static void promise08Day() {
        WhaleTown x = new WhaleTown();
        due("day(16, 0)", x.day(16, 0), BAD);
        due("day(-1, 0)", x.day(-1, 0), BAD);
        due("day(0, 8)", x.day(0, 8), BAD);
        due("day(0, -1)", x.day(0, -1), BAD);
        due("count(4), bad days are none", x.count(4), 0);
        due("day(15, 7)", x.day(15, 7), 1);
        for (int d = 2; d <= 5; d++) {
            due("day(0, 0)", x.day(0, 0), d);
        }
        due("day(0, 0), full", x.day(0, 0), FULL);
        due("day(16, 0), full and bad", x.day(16, 0), BAD);
        due("count(4), full", x.count(4), 5);
        WhaleTown y = laid("s0,1,1,1;");
        due("day(2, 0) of one sign", y.day(2, 0), BAD);
        due("day(1, 1) without works", y.day(1, 1), BAD);
        due("day(1, 0) of one sign", y.day(1, 0), 1);
    }

    private static void promise09Diary() {
        WhaleTown x = new WhaleTown();
        due("diary(0, 0), empty", x.diary(0, 0), BAD);
        x.day(9, 3);
        x.day(6, 5);
        due("diary(0, 0)", x.diary(0, 0), 9);
        due("diary(0, 1)", x.diary(0, 1), 3);
        due("diary(1, 0)", x.diary(1, 0), 6);
        due("diary(1, 1)", x.diary(1, 1), 5);
        due("diary(2, 0)", x.diary(2, 0), BAD);
        due("diary(-1, 0)", x.diary(-1, 0), BAD);
        due("diary(0, 2)", x.diary(0, 2), BAD);
        due("diary(0, -1)", x.diary(0, -1), BAD);
    }

    private static void promise10Undo() {
        WhaleTown x = new WhaleTown();
        due("undo(), empty", x.undo(), NO);
        for (int d = 1; d <= 5; d++) {
            x.day(d, 0);
        }
        for (int left = 4; left >= 0; left--) {
            due("undo()", x.undo(), left);
            due("diary of what was undone", x.diary(left, 0), BAD);
        }
        due("undo(), all undone", x.undo(), NO);
        x.day(3, 1);
        due("diary, written anew", x.diary(0, 0), 3);
    }

    private static void promise11Belief() {
        WhaleTown x = laid("a1,2,1;s0,1,2,3;w1,5;");
        dueShare("belief(0), no days", x.belief(0, 0), x.belief(0, 1), 1, 1);
        dueShare("belief(2), no days", x.belief(2, 0), x.belief(2, 1), 0, 1);
        // DEEP 3 by 1, LIGHT 1 by 2.
        x.day(1, 0);
        dueShare("belief(0), seen", x.belief(0, 0), x.belief(0, 1), 3, 5);
        dueShare("belief(1), seen", x.belief(1, 0), x.belief(1, 1), 2, 5);
        // Noise 1: DEEP 3 by 2 by 3 not seen, LIGHT (3 by 2 and 2 by 1) by 2, STIRRING 2 by 3 by 1.
        x.day(0, 1);
        dueShare("belief(0), not seen", x.belief(0, 0), x.belief(0, 1), 9, 20);
        dueShare("belief(1), not seen", x.belief(1, 0), x.belief(1, 1), 2, 5);
        dueShare("belief(2), not seen", x.belief(2, 0), x.belief(2, 1), 3, 20);
        // That it did not turn is known, too: STIRRING at one of four would turn.
        WhaleTown y = laid("a4,4,2;s0,0,0,1;");
        y.day(0, 0);
        y.day(0, 0);
        y.day(0, 0);
        dueShare("belief(2), not turned", y.belief(2, 0), y.belief(2, 1), 1, 1);
        y.undo();
        y.undo();
        dueShare("belief(2), undone", y.belief(2, 0), y.belief(2, 1), 0, 1);
        due("belief(-1, 0)", x.belief(-1, 0), BAD);
        due("belief(3, 0)", x.belief(3, 0), BAD);
        due("belief(0, 2)", x.belief(0, 2), BAD);
        due("belief(0, -1)", x.belief(0, -1), BAD);
        kindsOfSigns();
        impossibleDiaries();
    }

    private static void kindsOfSigns() {
        // After a day it is DEEP or LIGHT, each by two of four.
        dueBelief("s0,1,3,0;", 1, 1, 4);
        dueBelief("s0,1,3,0;", 0, 3, 4);
        // LATE: DEEP ahead of the day, whatever it is now.
        dueBelief("s1,1,3,0;", 1, 1, 2);
        dueBelief("s1,1,3,0;", 0, 1, 2);
        // FALSE: 3 and 1 of four.
        dueBelief("s2,1,3,0;", 1, 3, 4);
        dueBelief("s2,1,3,0;", 0, 1, 4);
        // PAIRED of number 0: as PLAIN.
        dueBelief("s3,1,3,0;", 1, 1, 4);
        // PAIRED behind one: by 2 of four each, so the other tells nothing itself.
        dueBelief("s0,2,2,2;s3,1,3,0;", 3, 1, 4);
        dueBelief("s0,2,2,2;s3,1,3,0;", 1, 3, 4);
        dueBelief("s0,2,2,2;s3,1,3,0;", 0, 1, 2);
        dueBelief("s0,2,2,2;s3,1,3,0;", 2, NONE, NONE);
        // LATE behind LIGHT.
        WhaleTown x = laid("a4,2,1;s1,0,4,1;");
        x.day(0, 0);
        x.day(1, 0);
        dueShare("LATE, light ahead", x.belief(2, 0), x.belief(2, 1), 1, 2);
        x.undo();
        x.day(0, 0);
        due("LATE, light ahead, never unseen", x.belief(1, 0), NONE);
    }

    /** How likely DEEP, behind one day with these signs seen, is. */
    private static void dueBelief(String signs, int seen, int above, int below) {
        WhaleTown x = laid("a2,1,1;" + signs);
        x.day(seen, 0);
        dueShare(signs + " seen " + seen, x.belief(0, 0), x.belief(0, 1), above, below);
    }

    private static void impossibleDiaries() {
        WhaleTown x = laid("a4,4,4;s0,4,4,4;w1,1;");
        x.day(0, 0);
        due("belief", x.belief(0, 0), NONE);
        due("belief, bad before none", x.belief(3, 0), BAD);
        due("near", x.near(1, 0, 0), NONE);
        due("near, bad before none", x.near(0, 0, 0), BAD);
        due("sight", x.sight(0, 0, 0), NONE);
        due("sight, bad before none", x.sight(1, 0, 0), BAD);
        due("tells", x.tells(0), NONE);
        due("tells, bad before none", x.tells(2), BAD);
        due("board", x.board(0, 0), NONE);
        due("board, bad before none", x.board(0, 3), BAD);
        due("quiet", x.quiet(100, 0), NONE);
        due("quiet, bad before none", x.quiet(101, 0), BAD);
        x.undo();
        x.day(1, 0);
        x.day(1, 0);
        due("belief, can be", x.belief(2, 0), 1);
        x.day(1, 0);
        due("belief, it must have turned", x.belief(2, 0), NONE);
    }

    private static void promise12Near() {
        WhaleTown x = laid("a1,2,1;s0,1,2,3;w1,5;w4,1;w4,1;");
        dueShare("near(1)", x.near(1, 0, 0), x.near(1, 0, 1), 0, 1);
        dueShare("near(2)", x.near(2, 1, 0), x.near(2, 1, 1), 0, 1);
        // 1 by 2 by 1 of 64; with noise 1: 2 by 3 by 2.
        dueShare("near(3)", x.near(3, 0, 0), x.near(3, 0, 1), 1, 32);
        dueShare("near(3), noise", x.near(3, 1, 0), x.near(3, 1, 1), 3, 16);
        dueShare("near(3), 4 at most", x.near(3, 6, 0), x.near(3, 6, 1), 1, 1);
        x.day(1, 2);
        x.day(1, 2);
        // STIRRING for sure: 1 of four, then 1 and 3 by 1 of sixteen.
        dueShare("near(1), stirring", x.near(1, 0, 0), x.near(1, 0, 1), 1, 4);
        dueShare("near(2), stirring", x.near(2, 0, 0), x.near(2, 0, 1), 7, 16);
        dueShare("near(3), stirring", x.near(3, 0, 0), x.near(3, 0, 1), 37, 64);
        // It did not turn on a day on which it might have.
        WhaleTown y = laid("a4,4,2;s0,0,0,1;l5,9;");
        for (int d = 0; d < 3; d++) {
            y.day(0, 0);
        }
        dueShare("near(1), it might have turned", y.near(1, 0, 0), y.near(1, 0, 1), 1, 2);
        dueShare("near(2), it might have turned", y.near(2, 0, 0), y.near(2, 0, 1), 3, 4);
        // 27, 20, 12, 4 by 7/8.
        dueShare("board, it might have turned", y.board(0, 1), y.board(0, 2), 35, 8);
        due("near(0)", x.near(0, 0, 0), BAD);
        due("near(4)", x.near(4, 0, 0), BAD);
        due("near works 8", x.near(1, 8, 0), BAD);
        due("near works -1", x.near(1, -1, 0), BAD);
        due("near part 2", x.near(1, 0, 2), BAD);
        due("near part -1", x.near(1, 0, -1), BAD);
    }

    private static void promise13Sight() {
        WhaleTown x = laid("a1,2,1;s0,1,2,3;s1,0,2,4;s2,4,3,1;s3,2,2,2;w1,5;w3,5;");
        dueShare("sight PLAIN", x.sight(0, 0, 0), x.sight(0, 0, 1), 5, 16);
        dueShare("sight PLAIN, noise", x.sight(0, 1, 0), x.sight(0, 1, 1), 3, 8);
        dueShare("sight LATE", x.sight(1, 0, 0), x.sight(1, 0, 1), 0, 1);
        dueShare("sight FALSE", x.sight(2, 0, 0), x.sight(2, 0, 1), 1, 16);
        dueShare("sight PAIRED", x.sight(3, 0, 0), x.sight(3, 0, 1), 1, 32);
        x.day(0, 2);
        // LIGHT: 2 of four stay, 2 of four stir.
        dueShare("sight PLAIN, light", x.sight(0, 0, 0), x.sight(0, 0, 1), 5, 8);
        dueShare("sight LATE, light", x.sight(1, 0, 0), x.sight(1, 0, 1), 1, 2);
        dueShare("sight FALSE, light", x.sight(2, 0, 0), x.sight(2, 0, 1), 1, 2);
        dueShare("sight PAIRED, light", x.sight(3, 0, 0), x.sight(3, 0, 1), 1, 4);
        due("sight(4)", x.sight(4, 0, 0), BAD);
        due("sight(-1)", x.sight(-1, 0, 0), BAD);
        due("sight works 4", x.sight(0, 4, 0), BAD);
        due("sight works -1", x.sight(0, -1, 0), BAD);
        due("sight part 2", x.sight(0, 0, 2), BAD);
        due("sight part -1", x.sight(0, 0, -1), BAD);
        // If it does not turn: STIRRING stays so for sure, then.
        WhaleTown y = laid("a4,4,3;s0,4,4,1;w1,1;");
        y.day(1, 0);
        y.day(0, 0);
        dueShare("sight, it may turn", y.sight(0, 0, 0), y.sight(0, 0, 1), 1, 4);
        due("sight, it surely turns", y.sight(0, 1, 0), NONE);
        due("tells, it surely turns", y.tells(1), NONE);
        // Three that hang on one another: 3 by 2 by 3 by 1 of 256.
        WhaleTown z = laid("a0,4,4;s0,3,0,0;s3,2,0,0;s3,3,0,0;s3,1,0,0;");
        dueShare("sight, PAIRED in a row", z.sight(3, 0, 0), z.sight(3, 0, 1), 9, 128);
        dueShare("sight, PAIRED in a row, 2", z.sight(2, 0, 0), z.sight(2, 0, 1), 9, 32);
        // PAIRED behind a PAIRED of the number 0.
        WhaleTown v = laid("a0,4,4;s3,3,0,0;s3,2,0,0;");
        dueShare("sight, PAIRED of number 0", v.sight(0, 0, 0), v.sight(0, 0, 1), 3, 4);
        dueShare("sight, PAIRED behind it", v.sight(1, 0, 0), v.sight(1, 0, 1), 3, 8);
    }

    private static void promise14Tells() {
        due("the nearest", laid("a0,1,1;s0,0,1,1;s0,4,1,1;s0,3,1,1;s0,0,1,1;").tells(0), 2);
        due("the first of several, either way", laid("a0,1,1;s0,4,1,1;s0,1,1,1;s0,3,1,1;").tells(0), 1);
        due("one of a half", laid("a0,1,1;s0,1,1,1;s0,3,1,1;s0,2,1,1;").tells(0), 2);
        due("all surely", laid("a0,1,1;s0,4,4,4;s0,4,1,1;").tells(0), 0);
        WhaleTown x = laid("a0,1,1;s0,1,2,4;s0,0,3,2;w2,1;w4,1;");
        // Noise 2: 6 of 16 and 6 of 16; noise 4: 2 of four and 3 of four; none: 1 of four and none.
        due("tells(0)", x.tells(0), 0);
        due("tells(1)", x.tells(1), 0);
        due("tells(2)", x.tells(2), 0);
        x.day(0, 2);
        due("tells(2), light", x.tells(2), 1);
        due("tells(4)", x.tells(4), BAD);
        due("tells(-1)", x.tells(-1), BAD);
    }

    private static void promise15Board() {
        WhaleTown x = laid("a4,4,2;s0,1,1,1;w2,1;l10,2;");
        // k 0: 6; k 1: 4; k 2: 2; k 3: 10 by one half.
        due("board k", x.board(0, 0), 2);
        dueShare("board", x.board(0, 1), x.board(0, 2), 2, 1);
        x.day(0, 0);
        // k 0: 6; k 1: 4; k 2: 5 and 2.
        due("board k, light", x.board(0, 0), 1);
        dueShare("board, light", x.board(0, 1), x.board(0, 2), 4, 1);
        x.day(0, 0);
        due("board k, stirring", x.board(0, 0), 0);
        dueShare("board, stirring", x.board(0, 1), x.board(0, 2), 6, 1);
        due("board(2)", x.board(2, 0), BAD);
        due("board(-1)", x.board(-1, 0), BAD);
        due("board what 3", x.board(0, 3), BAD);
        due("board what -1", x.board(0, -1), BAD);
        // Of several the first: all cost nothing; then E is 9 and it turns for sure on day 3, 2, 1.
        due("board, nothing costs", laid("s0,1,1,1;l0,0;").board(0, 0), 0);
        due("board, 2 and 3 alike", laid("a4,4,4;s0,1,1,1;l9,9;").board(0, 0), 2);
        WhaleTown y = laid("a4,4,4;s0,1,1,1;l18,9;");
        y.day(0, 0);
        due("board, 1 and 3 alike", y.board(0, 0), 1);
        WhaleTown w = laid("a4,4,4;s0,1,1,1;l27,9;");
        w.day(0, 0);
        w.day(0, 0);
        due("board, 0 and 3 alike", w.board(0, 0), 0);
        // The largest numbers reckoned with: five days of four signs that are surely seen, 99 and 9.
        WhaleTown z = laid("a4,4,1;s0,4,4,4;s0,4,4,4;s0,4,4,4;s0,4,4,4;l99,0;");
        for (int d = 0; d < 5; d++) {
            z.day(15, 0);
        }
        due("board, nothing for boats", z.board(0, 0), 0);
        WhaleTown v = laid("a4,4,0;s0,4,4,4;s0,4,4,4;s0,4,4,4;s0,4,4,4;w2,1;w4,1;l99,9;");
        for (int d = 0; d < 5; d++) {
            v.day(15, 0);
        }
        dueShare("board of largest numbers", v.board(2, 1), v.board(2, 2), 27, 1);
        dueShare("belief of largest numbers", v.belief(2, 0), v.belief(2, 1), 1, 1);
        dueShare("near of largest numbers", v.near(3, 1, 0), v.near(3, 1, 1), 7, 8);
        due("quiet of largest numbers", v.quiet(87, 0), 0);
        due("quiet of largest numbers", v.quiet(88, 0), 1);
    }

    private static void promise16Quiet() {
        // DEEP: noise n turns in three days by n of four each, to the third: 1, 8, 27, 64 of 64.
        WhaleTown x = laid("a0,0,0;s0,1,1,1;w1,3;w2,5;w1,4;w0,0;");
        due("quiet(0)", x.quiet(0, 0), 0);
        due("quiet(1)", x.quiet(1, 1), 0);
        due("quiet(2)", x.quiet(2, 0), 4);
        due("quiet(2) brings", x.quiet(2, 1), 4);
        due("quiet(12)", x.quiet(12, 0), 4);
        due("quiet(13)", x.quiet(13, 0), 5);
        due("quiet(13) brings", x.quiet(13, 1), 7);
        due("quiet(43)", x.quiet(43, 0), 6);
        due("quiet(43) brings", x.quiet(43, 1), 9);
        due("quiet(99)", x.quiet(99, 0), 6);
        due("quiet(100), the lowest", x.quiet(100, 0), 7);
        due("quiet(100) brings", x.quiet(100, 1), 12);
        due("quiet(-1)", x.quiet(-1, 0), BAD);
        due("quiet(101)", x.quiet(101, 0), BAD);
        due("quiet what 2", x.quiet(0, 2), BAD);
        due("quiet what -1", x.quiet(0, -1), BAD);
        // No more than: 25 of a hundred is 1 of four.
        WhaleTown y = laid("a4,4,1;s0,1,1,1;w0,1;");
        due("quiet(24)", y.quiet(24, 0), NONE);
        due("quiet(24) brings", y.quiet(24, 1), NONE);
        due("quiet(25)", y.quiet(25, 0), 1);
        due("without works", laid("a0,0,0;s0,1,1,1;").quiet(0, 0), 0);
        due("of several the lowest", laid("a0,0,0;s0,1,1,1;w1,3;w0,3;w1,3;").quiet(0, 0), 2);
        due("of several the lowest", laid("a0,0,0;s0,1,1,1;w0,0;w0,3;w0,3;w0,0;").quiet(0, 0), 6);
        // By the next three days, from what it is now: DEEP is left by nothing.
        WhaleTown z = laid("a0,4,4;s0,1,1,1;w1,1;");
        due("quiet from deep", z.quiet(24, 0), 0);
        due("quiet from deep", z.quiet(25, 0), 1);
    }

    private static void promise17Saved() {
        WhaleTown x = laid("s0,1,1,1;h9,0;h8,20;h7,60;b10;b12;");
        due("saved(0)", x.saved(0), 9);
        due("saved(19)", x.saved(19), 9);
        due("saved(20)", x.saved(20), 17);
        due("saved(59)", x.saved(59), 17);
        due("saved(60), no more than have room", x.saved(60), 22);
        due("saved(99)", x.saved(99), 22);
        due("saved(-1)", x.saved(-1), BAD);
        due("saved(100)", x.saved(100), BAD);
        due("without boats", laid("s0,1,1,1;h9,0;").saved(99), 0);
        due("without houses", laid("s0,1,1,1;b9;").saved(99), 0);
    }

    private static void dueCrews(String text, int boats, int... boatOf) {
        WhaleTown x = laid("s0,1,1,1;" + text);
        due("crews(-1) of " + text, x.crews(-1), boats);
        for (int h = 0; h < boatOf.length; h++) {
            due("crews(" + h + ") of " + text, x.crews(h), boatOf[h]);
        }
        due("crews(-2) of " + text, x.crews(-2), BAD);
        due("crews behind the last of " + text, x.crews(boatOf.length), BAD);
    }

    private static void promise18Crews() {
        dueCrews("h4,10;h3,25;h6,5;h2,40;b8;b5;b9;", 5, 0, 0, 2, 2);
        dueCrews("h4,1;b3;b5;b4;", 2, 1);
        dueCrews("h4,1;h5,1;b9;b5;b30;", 1, 0, 0);
        dueCrews("h4,1;h4,1;b4;b4;b8;", 4, 2, 2);
        dueCrews("h4,1;h4,1;b7;b7;b7;", 3, 0, 1);
        dueCrews("h1,1;h9,1;h1,1;h9,1;b10;b10;", 3, 0, 0, 1, 1);
        dueCrews("h2,1;h9,1;h1,1;h8,1;b10;b10;", 3, 0, 1, 1, 0);
        // 4, 4, 4 into 6 and 6: room enough, but none for whole houses.
        dueCrews("h4,1;h4,1;h4,1;b6;b6;", NONE, NONE, NONE, NONE);
        dueCrews("h9,1;b1;", NONE, NONE);
        dueCrews("h9,1;", NONE, NONE);
        dueCrews("b9;", NONE);
        dueCrews("", NONE);
        dueCrews("h9,1;h9,1;h9,1;h9,1;h9,1;h9,1;b9;b9;b9;b30;", 15, 0, 1, 2, 3, 3, 3);
        dueCrews("h5,1;h5,1;b1;b5;b9;b5;", 6, 1, 2);
    }

    private static void promise19Drift() {
        WhaleTown x = new WhaleTown();
        dueShare("here at once", x.drift(6, 0, 4, 0, 0), x.drift(6, 0, 4, 0, 1), 1, 1);
        dueShare("elsewhere at once", x.drift(7, 0, 4, 0, 0), x.drift(7, 0, 4, 0, 1), 0, 1);
        dueShare("a mile east", x.drift(7, 1, 3, 1, 0), x.drift(7, 1, 3, 1, 1), 3, 4);
        dueShare("a mile west", x.drift(5, 1, 3, 1, 0), x.drift(5, 1, 3, 1, 1), 1, 4);
        dueShare("none stays", x.drift(6, 1, 3, 1, 0), x.drift(6, 1, 3, 1, 1), 0, 1);
        dueShare("six miles east", x.drift(12, 6, 4, 0, 0), x.drift(12, 6, 4, 0, 1), 1, 1);
        dueShare("six miles west", x.drift(0, 6, 0, 4, 0), x.drift(0, 6, 0, 4, 1), 1, 1);
        // 2 nights of 1 east, 2 west, 1 stays: 1 and 2 by 1 by 2 of sixteen.
        dueShare("here again", x.drift(6, 2, 1, 2, 0), x.drift(6, 2, 1, 2, 1), 5, 16);
        dueShare("six nights east of one", x.drift(12, 6, 1, 2, 0), x.drift(12, 6, 1, 2, 1), 1, 4096);
        dueShare("never drifts", x.drift(6, 6, 0, 0, 0), x.drift(6, 6, 0, 0, 1), 1, 1);
        due("m -1", x.drift(-1, 1, 1, 1, 0), BAD);
        due("m 13", x.drift(13, 1, 1, 1, 0), BAD);
        due("n -1", x.drift(6, -1, 1, 1, 0), BAD);
        due("n 7", x.drift(6, 7, 1, 1, 0), BAD);
        due("e -1", x.drift(6, 1, -1, 1, 0), BAD);
        due("e 5", x.drift(6, 1, 5, 0, 0), BAD);
        due("f -1", x.drift(6, 1, 1, -1, 0), BAD);
        due("f 5", x.drift(6, 1, 0, 5, 0), BAD);
        due("e 5, f -1", x.drift(6, 1, 5, -1, 0), BAD);
        due("together 5", x.drift(6, 1, 3, 2, 0), BAD);
        due("part 2", x.drift(6, 1, 1, 1, 2), BAD);
        due("part -1", x.drift(6, 1, 1, 1, -1), BAD);
    }

    private static void promise20Ahead() {
        WhaleTown x = new WhaleTown();
        due("alike", x.ahead(2, 2), BAD);
        due("a 4", x.ahead(4, 0), BAD);
        due("a -1", x.ahead(-1, 0), BAD);
        due("b 4", x.ahead(0, 4), BAD);
        due("b -1", x.ahead(0, -1), BAD);
        due("none told", x.count(5), 0);
        for (int i = 1; i <= 7; i++) {
            due("ahead", x.ahead(i % 3, 3), i);
        }
        due("the eighth", x.ahead(3, 0), 8);
        due("full", x.ahead(0, 1), FULL);
        due("full and bad", x.ahead(1, 1), BAD);
        due("count(5), full", x.count(5), 8);
        due("of one sign", laid("s0,1,1,1;").ahead(0, 1), BAD);
    }

    private static void promise21Forget() {
        WhaleTown x = new WhaleTown();
        due("none told", x.forget(), 0);
        x.ahead(0, 1);
        x.ahead(1, 2);
        x.ahead(2, 3);
        due("orders", x.orders(), 1);
        due("three told", x.forget(), 3);
        due("forgotten", x.forget(), 0);
        due("orders, forgotten", x.orders(), 24);
        due("first, forgotten", x.first(), 15);
        due("told anew", x.ahead(3, 0), 1);
    }

    private static void promise22First() {
        WhaleTown x = new WhaleTown();
        due("none told", x.first(), 15);
        x.ahead(0, 1);
        due("0 ahead of 1", x.first(), 13);
        x.ahead(2, 1);
        due("2 ahead of 1", x.first(), 13);
        x.ahead(1, 3);
        due("1 ahead of 3", x.first(), 5);
        x.ahead(3, 2);
        due("goes round, though 0 has none ahead", x.first(), 0);
        due("of one sign", laid("s0,1,1,1;").first(), 1);
        due("of three signs", laid("s0,1,1,1;s0,1,1,1;s0,1,1,1;").first(), 7);
        x.forget();
        x.ahead(3, 0);
        due("3 ahead of 0", x.first(), 14);
        x.ahead(3, 2);
        x.ahead(3, 1);
        due("3 ahead of all", x.first(), 8);
    }

    private static void promise23Orders() {
        WhaleTown x = new WhaleTown();
        due("none told", x.orders(), 24);
        x.ahead(0, 1);
        due("0 ahead of 1", x.orders(), 12);
        x.ahead(2, 3);
        due("2 ahead of 3", x.orders(), 6);
        x.ahead(0, 1);
        due("told twice", x.orders(), 6);
        x.ahead(1, 2);
        due("all in a row", x.orders(), 1);
        x.ahead(3, 0);
        due("goes round", x.orders(), 0);
        due("of one sign", laid("s0,1,1,1;").orders(), 1);
        due("of three signs", laid("s0,1,1,1;s0,1,1,1;s0,1,1,1;").orders(), 6);
        WhaleTown y = new WhaleTown();
        y.ahead(3, 0);
        y.ahead(3, 1);
        due("3 ahead of two", y.orders(), 8);
    }

    private static void promise24Feigned() {
        WhaleTown x = laid("a0,0,0;s0,1,1,1;s0,4,4,4;w4,1;");
        due("empty", x.feigned(), NONE);
        x.day(3, 0);
        due("one day", x.feigned(), 1);
        // Seen is one of four, not seen three: without the seen one all is likelier.
        x.day(2, 0);
        due("the unlikelier", x.feigned(), 1);
        x.day(3, 0);
        due("two alike", x.feigned(), 5);
        x.day(1, 0);
        due("one that could not be", x.feigned(), 8);
        x.day(1, 0);
        due("two that could not be", x.feigned(), NONE);
        // Works of the day are looked at: three loud days turn it, whatever was seen.
        WhaleTown y = laid("a0,0,0;s0,1,1,1;w4,1;");
        y.day(1, 1);
        y.day(0, 1);
        due("two loud days", y.feigned(), 1);
        y.day(0, 1);
        due("three loud days", y.feigned(), NONE);
        // One day that could not be is what was feigned.
        WhaleTown z = laid("a4,4,0;s0,4,0,4;");
        z.day(1, 0);
        due("the only day", z.feigned(), 1);
    }

    private static void promise25Spring() {
        // z 0: x is 6152, 12303, 18454, ..; DRAW is x by x modulo 65521, by 8, cut.
        WhaleTown x = laid("a1,2,3;s0,1,1,1;w1,1;w4,1;");
        for (int z = 0; z <= 9999; z += 1111) {
            for (int works = 0; works < 4; works++) {
                dueSpring(x, z, works, works % 2 + (works > 1 ? 4 : 0));
            }
        }
        due("z -1", x.spring(-1, 0, 0), BAD);
        due("z 10000", x.spring(10000, 0, 0), BAD);
        due("works 4", x.spring(0, 4, 0), BAD);
        due("works -1", x.spring(0, -1, 0), BAD);
        due("what 2", x.spring(0, 0, 2), BAD);
        due("what -1", x.spring(0, 0, -1), BAD);
        due("turns on day 3", x.spring(5, 2, 0), 3);
        due("stirring on day 2 alone", x.spring(5, 2, 1), 1);
        WhaleTown y = laid("a4,4,0;s0,1,1,1;");
        due("never turns", y.spring(9999, 0, 0), NONE);
        due("stirring from day 2 to 60", y.spring(9999, 0, 1), 59);
        WhaleTown v = laid("a0,4,4;s0,1,1,1;");
        due("stays deep", v.spring(1, 0, 0), NONE);
        due("never stirring", v.spring(1, 0, 1), 0);
        y.day(1, 0);
        due("nothing changes, the diary counts for nothing", y.spring(9999, 0, 1), 59);
        due("count(4)", y.count(4), 1);
    }

    private static void dueSpring(WhaleTown town, int z, int works, int noise) {
        int[] chance = {Math.min(4, 1 + noise), Math.min(4, 2 + noise), Math.min(4, 3 + noise)};
        int sleep = 0;
        int stirring = 0;
        int turned = NONE;
        for (int d = 1; d <= 60; d++) {
            java.math.BigInteger x = java.math.BigInteger.valueOf(7919).multiply(java.math.BigInteger.valueOf(z))
                    .add(java.math.BigInteger.valueOf(6151L * d)).add(java.math.BigInteger.ONE);
            int draw = x.multiply(x).mod(java.math.BigInteger.valueOf(65521)).intValue() / 8;
            if (sleep < 3 && draw % 4 < chance[sleep]) {
                sleep++;
                turned = sleep == 3 ? d : turned;
            }
            stirring += sleep == 2 ? 1 : 0;
        }
        due("spring(" + z + ", " + works + ", 0)", town.spring(z, works, 0), turned);
        due("spring(" + z + ", " + works + ", 1)", town.spring(z, works, 1), stirring);
    }

    private static void promise26Keep() {
        WhaleTown x = new WhaleTown();
        due("an empty diary", x.keep(), 1);
        x.day(3, 1);
        due("the second", x.keep(), 2);
        due("full", x.keep(), FULL);
        due("count(6)", x.count(6), 2);
        due("the diary goes on", x.day(4, 2), 2);
        x.back();
        due("room again", x.keep(), 2);
    }

    private static void promise27Back() {
        WhaleTown x = new WhaleTown();
        due("none kept", x.back(), NO);
        x.day(1, 1);
        x.day(2, 2);
        x.keep();
        x.undo();
        x.undo();
        x.day(9, 7);
        x.keep();
        x.day(5, 5);
        due("the last kept", x.back(), 1);
        due("one day", x.count(4), 1);
        due("its signs", x.diary(0, 0), 9);
        due("its works", x.diary(0, 1), 7);
        due("the first kept", x.back(), 0);
        due("two days", x.count(4), 2);
        due("signs of the first", x.diary(0, 0), 1);
        due("works of the first", x.diary(0, 1), 1);
        due("signs of the second", x.diary(1, 0), 2);
        due("works of the second", x.diary(1, 1), 2);
        due("kept no more", x.back(), NO);
        // What is kept is not written on.
        x.keep();
        x.undo();
        x.day(8, 4);
        x.back();
        due("kept as it was", x.diary(1, 0), 2);
        // What is told ahead is none of the diary.
        x.keep();
        x.ahead(0, 1);
        x.back();
        due("told ahead stays", x.count(5), 1);
    }

    private static void promise28Count() {
        WhaleTown x = laid("s0,1,1,1;s0,1,1,1;s0,1,1,1;h9,1;h9,1;b3;w1,1;w2,2;w3,3;w4,4;w0,0;");
        dueCounts("laid", x, 3, 2, 1, 5, 0, 0, 0, 65, 18);
        x.day(1, 1);
        x.day(1, 1);
        x.day(1, 1);
        x.ahead(0, 1);
        x.ahead(0, 1);
        x.keep();
        x.write('q');
        dueCounts("then", x, 3, 2, 1, 5, 3, 2, 1, 66, 18);
        due("count(9)", x.count(9), BAD);
        due("count(-1)", x.count(-1), BAD);
        due("people without houses", laid("s0,1,1,1;").count(8), 0);
    }

    public static void main(String[] args) {
        promise01NewObject();
        promise02Write();
        promise03Wipe();
        promise04Fault();
        promise05Lay();
        promise06Sign();
        promise07Works();
        promise08Day();
        promise09Diary();
        promise10Undo();
        promise11Belief();
        promise12Near();
        promise13Sight();
        promise14Tells();
        promise15Board();
        promise16Quiet();
        promise17Saved();
        promise18Crews();
        promise19Drift();
        promise20Ahead();
        promise21Forget();
        promise22First();
        promise23Orders();
        promise24Feigned();
        promise25Spring();
        promise26Keep();
        promise27Back();
        promise28Count();
        end();
    }
}
