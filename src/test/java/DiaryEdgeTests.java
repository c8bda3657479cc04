/** The edges of promises 8 to 10, and of what is kept (26 to 28): DAYS written, undone, kept, counted. */
public final class DiaryEdgeTests extends Due {
    private static final String[] WORKS = {"", "w1,1;", "w1,1;w1,2;", "w1,1;w1,2;w1,3;", "w1,1;w1,2;w1,3;w1,4;",
        "w1,1;w1,2;w1,3;w1,4;w1,5;"};

    private static WhaleTown with(int signs, int works) {
        return laid(DULL.repeat(signs) + WORKS[works]);
    }

    /** A new object with a DAY of each of these SIGNS, and other WORKS each time. */
    private static WhaleTown withDays(int... signs) {
        WhaleTown x = new WhaleTown();
        for (int d = 0; d < signs.length; d++) {
            due("day(" + signs[d] + ", " + (7 - d) + ")", x.day(signs[d], 7 - d), d + 1);
        }
        return x;
    }

    private static void dueDays(String name, WhaleTown x, int... signs) {
        due(name + ", DAYS", x.count(4), signs.length);
        for (int d = 0; d < signs.length; d++) {
            due(name + ", diary(" + d + ", 0)", x.diary(d, 0), signs[d]);
            due(name + ", diary(" + d + ", 1)", x.diary(d, 1), 7 - d);
        }
        due(name + ", diary behind the last DAY", x.diary(signs.length, 0), BAD);
    }

    // ---- 8

    private static void signsSeen() {
        sentence("day: SIGNS seen (bits), such as there are; sets of these. BAD");
        for (int signs = 1; signs <= 4; signs++) {
            int many = signs;
            dueTold("day, signs of " + signs, 0, (1 << signs) - 1, set -> with(many, 1).day(set, 0));
            WhaleTown x = with(signs, 1);
            due("day, one sign too many", x.day(1 << signs, 0), BAD);
            due("day, one sign too many, with others", x.day((2 << signs) - 1, 0), BAD);
            due("no DAY is written", x.count(4), 0);
            due("day, all signs", x.day((1 << signs) - 1, 1), 1);
            due("diary, all signs", x.diary(0, 0), (1 << signs) - 1);
        }
    }

    private static void worksThatWentOn() {
        sentence("day: WORKS that went on (bits), such as there are; sets of these. BAD");
        for (int works = 0; works <= 5; works++) {
            int many = works;
            dueTold("day, works of " + works, 0, (1 << works) - 1, set -> with(1, many).day(1, set));
            WhaleTown x = with(1, works);
            due("day, one of the works too many", x.day(1, 1 << works), BAD);
            due("no DAY is written", x.count(4), 0);
            due("day, all works", x.day(1, (1 << works) - 1), 1);
            due("diary, all works", x.diary(0, 1), (1 << works) - 1);
            due("both BAD", x.day(2, 1 << works), BAD);
        }
    }

    private static void fiveDaysAtMost() {
        sentence("THE DIARY tells DAYS (5 at most); day: how many DAYS. FULL");
        WhaleTown x = new WhaleTown();
        for (int days = 1; days <= 5; days++) {
            due("day, number " + days, x.day(days, 7 - days), days);
            due("count(4)", x.count(4), days);
        }
        due("the sixth", x.day(0, 0), FULL);
        due("the sixth again", x.day(15, 7), FULL);
        due("count(4)", x.count(4), 5);
        due("diary(4, 0)", x.diary(4, 0), 5);
        due("diary(4, 1)", x.diary(4, 1), 2);
        due("diary(5, 0)", x.diary(5, 0), BAD);
        due("undo()", x.undo(), 4);
        due("the fifth anew", x.day(9, 1), 5);
        due("the sixth", x.day(9, 1), FULL);
    }

    private static void badAheadOfFull() {
        sentence("day: BAD; FULL. Of several the first");
        WhaleTown x = withDays(1, 2, 3, 4, 5);
        dueTold("signs, THE DIARY is full", 0, 15, set -> x.day(set, 0));
        dueTold("works, THE DIARY is full", 0, 7, set -> x.day(0, set));
        dueDays("full", x, 1, 2, 3, 4, 5);
    }

    private static void aDayThatCouldNotBe() {
        sentence("day: A DAY is written though it could not be, and ahead of such a one, behind it");
        WhaleTown x = laid("a0,0,0;s0,4,4,4;");
        for (int days = 1; days <= 5; days++) {
            due("day(0, 0)", x.day(0, 0), days);
            due("belief(0, 0)", x.belief(0, 0), NONE);
        }
        for (int days = 4; days >= 1; days--) {
            due("undo()", x.undo(), days);
            due("belief(0, 0)", x.belief(0, 0), NONE);
        }
        due("undo()", x.undo(), 0);
        due("belief(0, 0)", x.belief(0, 0), 1);
    }

    // ---- 9

    private static void daysSuchAsThereAre() {
        sentence("diary: Of a DAY of THE DIARY, such as there are (0 the first). BAD");
        int[] signs = {15, 0, 8, 1, 6};
        for (int days = 0; days <= 5; days++) {
            WhaleTown x = withDays(java.util.Arrays.copyOf(signs, days));
            dueDays("of " + days, x, java.util.Arrays.copyOf(signs, days));
            if (days > 0) {
                dueTold("diary d of " + days, 0, days - 1, d -> x.diary(d, 0));
            }
            for (int d = days; d <= 6; d++) {
                due("diary(" + d + ", 0) of " + days, x.diary(d, 0), BAD);
                due("diary(" + d + ", 1) of " + days, x.diary(d, 1), BAD);
            }
            due("diary(-1, 0)", x.diary(-1, 0), BAD);
            due("diary(-1, 1)", x.diary(-1, 1), BAD);
        }
    }

    private static void signsOrWorks() {
        sentence("diary: SIGNS (what = 0), WORKS (1). BAD");
        WhaleTown x = withDays(15, 0);
        dueTold("diary what", 0, 1, what -> x.diary(0, what));
        due("diary(0, 0)", x.diary(0, 0), 15);
        due("diary(0, 1)", x.diary(0, 1), 7);
        due("diary(1, 0)", x.diary(1, 0), 0);
        due("diary(1, 1)", x.diary(1, 1), 6);
        due("both BAD", x.diary(2, 2), BAD);
        WhaleTown y = with(4, 5);
        y.day(15, 31);
        y.day(0, 0);
        y.day(0, 31);
        y.day(15, 0);
        int[] due = {15, 31, 0, 0, 0, 31, 15, 0};
        for (int i = 0; i < 8; i++) {
            due("diary(" + i / 2 + ", " + i % 2 + ") of the greatest", y.diary(i / 2, i % 2), due[i]);
        }
    }

    // ---- 10

    private static void allCanBeUndone() {
        sentence("UNDONE is the latest DAY of it (all can be); undo: how many DAYS are left. NO");
        due("undo(), new", new WhaleTown().undo(), NO);
        int[] signs = {3, 5, 7, 9, 11};
        for (int days = 1; days <= 5; days++) {
            WhaleTown x = withDays(java.util.Arrays.copyOf(signs, days));
            for (int left = days - 1; left >= 0; left--) {
                due("undo()", x.undo(), left);
                dueDays("undone", x, java.util.Arrays.copyOf(signs, left));
            }
            due("undo(), all undone", x.undo(), NO);
            due("undo(), all undone, again", x.undo(), NO);
            due("count(4)", x.count(4), 0);
            due("day, anew", x.day(2, 7), 1);
            dueDays("anew", x, 2);
        }
    }

    private static void undoneIsNotLookedAt() {
        sentence("undo: what is UNDONE is not told any more");
        WhaleTown x = laid("a2,2,2;s0,1,3,0;");
        x.day(1, 0);
        dueShare("belief(0)", x.belief(0, 0), x.belief(0, 1), 1, 4);
        x.day(0, 0);
        x.undo();
        dueShare("belief(0), undone", x.belief(0, 0), x.belief(0, 1), 1, 4);
        x.undo();
        dueShare("belief(0), all undone", x.belief(0, 0), x.belief(0, 1), 1, 1);
        due("feigned(), all undone", x.feigned(), NONE);
    }

    // ---- 26

    private static void twoAtMost() {
        sentence("KEPT are DIARIES: 2 at most; keep: how many. FULL");
        WhaleTown x = new WhaleTown();
        due("keep() of an empty one", x.keep(), 1);
        due("count(6)", x.count(6), 1);
        due("keep(), the second", x.keep(), 2);
        due("count(6)", x.count(6), 2);
        due("keep(), the third", x.keep(), FULL);
        due("keep(), the third, again", x.keep(), FULL);
        due("count(6)", x.count(6), 2);
        due("back()", x.back(), 1);
        due("keep()", x.keep(), 2);
        due("keep()", x.keep(), FULL);
    }

    private static void fullLeavesWhatIsKept() {
        sentence("keep: FULL: nothing changes then");
        WhaleTown x = withDays(1);
        x.keep();
        x.day(2, 6);
        x.keep();
        x.day(3, 5);
        due("keep(), the third", x.keep(), FULL);
        dueDays("THE DIARY", x, 1, 2, 3);
        due("back()", x.back(), 1);
        dueDays("the second", x, 1, 2);
        due("back()", x.back(), 0);
        dueDays("the first", x, 1);
    }

    private static void keepLeavesTheDiary() {
        sentence("keep: THE DIARY stays, and goes on");
        WhaleTown x = withDays(1, 2, 3, 4, 5);
        due("keep() of a full one", x.keep(), 1);
        dueDays("kept", x, 1, 2, 3, 4, 5);
        due("day(0, 0)", x.day(0, 0), FULL);
        due("undo()", x.undo(), 4);
        due("day(9, 3)", x.day(9, 3), 5);
        dueDays("as it went on", x, 1, 2, 3, 4, 9);
        due("back()", x.back(), 0);
        dueDays("as it was kept", x, 1, 2, 3, 4, 5);
    }

    // ---- 27

    private static void noneKept() {
        sentence("back: NO");
        WhaleTown x = withDays(1, 2);
        due("back()", x.back(), NO);
        dueDays("not back", x, 1, 2);
        x.keep();
        due("back()", x.back(), 0);
        due("back(), kept no more", x.back(), NO);
        dueDays("back", x, 1, 2);
    }

    private static void asKeptLast() {
        sentence("back: As KEPT last (it is KEPT no more then): how many are left");
        WhaleTown x = new WhaleTown();
        x.keep();
        for (int d = 0; d < 5; d++) {
            x.day(11 + d, 7 - d);
        }
        x.keep();
        for (int d = 0; d < 5; d++) {
            x.undo();
        }
        x.day(4, 7);
        due("back() to the full one", x.back(), 1);
        dueDays("the full one", x, 11, 12, 13, 14, 15);
        due("count(6)", x.count(6), 1);
        due("back() to the empty one", x.back(), 0);
        dueDays("the empty one", x);
        due("count(6)", x.count(6), 0);
        due("undo()", x.undo(), NO);
        due("back()", x.back(), NO);
    }

    private static void keptAnewIsLast() {
        sentence("back: As KEPT last, when there is one KEPT before and one kept anew");
        WhaleTown x = withDays(1);
        x.keep();
        x.day(2, 6);
        x.keep();
        due("back()", x.back(), 1);
        x.undo();
        x.undo();
        x.day(8, 7);
        due("keep()", x.keep(), 2);
        x.day(9, 6);
        due("back()", x.back(), 1);
        dueDays("the one kept anew", x, 8);
        due("back()", x.back(), 0);
        dueDays("the first one", x, 1);
    }

    private static void keptDoesNotChange() {
        sentence("KEPT are DIARIES as they were");
        WhaleTown x = withDays(1, 2);
        x.keep();
        x.keep();
        x.undo();
        x.day(13, 6);
        x.back();
        x.undo();
        x.undo();
        due("back()", x.back(), 0);
        dueDays("the first kept", x, 1, 2);
        due("day", x.day(3, 5), 3);
        dueDays("goes on", x, 1, 2, 3);
    }

    private static void theDiaryAlone() {
        sentence("back: As KEPT: THE DIARY, not what is TOLD ahead, nor THE TEXT");
        WhaleTown x = withDays(1);
        x.keep();
        x.ahead(0, 1);
        x.write('q');
        due("back()", x.back(), 0);
        dueCounts("back", x, 4, 4, 3, 3, 1, 1, 0, 1, 15);
        due("first()", x.first(), 13);
    }

    private static void beliefOfTheKept() {
        sentence("back: the BELIEF is that of THE DIARY that was KEPT");
        WhaleTown x = laid("a2,2,2;s0,1,3,0;");
        x.day(1, 0);
        x.keep();
        x.day(0, 0);
        due("back()", x.back(), 0);
        dueShare("belief(0)", x.belief(0, 0), x.belief(0, 1), 1, 4);
    }

    // ---- 28

    private static void countOfWhat() {
        sentence("count: 0 SIGNS .. 8 people. BAD");
        WhaleTown x = new WhaleTown();
        dueTold("count what", 0, 8, x::count);
    }

    private static void countOfTheLeast() {
        sentence("count: of the least that can be");
        WhaleTown x = laid(DULL);
        x.wipe();
        dueCounts("least", x, 1, 0, 0, 0, 0, 0, 0, 0, 0);
    }

    private static void countOfTheMost() {
        sentence("count: of the most that can be");
        String text = DULL.repeat(4) + "h9,0;".repeat(3) + "h9,60;".repeat(3) + "b30;".repeat(4) + "w4,20;".repeat(5);
        WhaleTown x = laid(text);
        for (int i = 0; i < 9; i++) {
            x.day(15, 31);
            x.ahead(3, 0);
            x.keep();
        }
        for (int i = text.length(); i < 210; i++) {
            x.write(126);
        }
        dueCounts("most", x, 4, 6, 4, 5, 5, 8, 2, 200, 54);
    }

    private static void countOfPeople() {
        sentence("count: 8 people, of all HOUSES, wherever they are");
        due("one of 1", laid(DULL + "h1,60;").count(8), 1);
        due("two", laid(DULL + "h9,0;h8,60;").count(8), 17);
        due("one each of 1 to 6", laid(DULL + "h1,10;h2,20;h3,30;h4,40;h5,50;h6,60;").count(8), 21);
        due("more than have room", laid(DULL + "h9,10;b1;").count(8), 9);
    }

    // ---- how often it is asked

    private static void fiveHundredAndTwelveCalls() {
        sentence("An object is used for at most 512 calls: the last ones as the first ones");
        WhaleTown x = new WhaleTown();
        for (int i = 0; i < 100; i++) {
            due("day, round " + i, x.day(15, 7), 1);
            due("keep, round " + i, x.keep(), 1);
            due("undo, round " + i, x.undo(), 0);
            due("back, round " + i, x.back(), 0);
            due("undo, again, round " + i, x.undo(), 0);
        }
        for (int i = 0; i < 5; i++) {
            due("day " + i, x.day(i, 0), i + 1);
        }
        due("ahead(3, 0)", x.ahead(3, 0), 1);
        due("write", x.write('b'), 1);
        due("keep()", x.keep(), 1);
        due("first()", x.first(), 14);
        due("fault()", x.fault(), 0);
        due("day, full", x.day(0, 0), FULL);
        due("crews(-1), call 512", x.crews(-1), 5);
    }

    public static void main(String[] args) {
        signsSeen();
        worksThatWentOn();
        fiveDaysAtMost();
        badAheadOfFull();
        aDayThatCouldNotBe();
        daysSuchAsThereAre();
        signsOrWorks();
        allCanBeUndone();
        undoneIsNotLookedAt();
        twoAtMost();
        fullLeavesWhatIsKept();
        keepLeavesTheDiary();
        noneKept();
        asKeptLast();
        keptAnewIsLast();
        keptDoesNotChange();
        theDiaryAlone();
        beliefOfTheKept();
        countOfWhat();
        countOfTheLeast();
        countOfTheMost();
        countOfPeople();
        fiveHundredAndTwelveCalls();
        end();
    }
}
