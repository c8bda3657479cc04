/** The edges of promises 1 to 7: a new object, THE TEXT, what is LAID. One function for each sentence that names one. */
public final class WhalesEdgeTests extends Due {
    private static final String[] LETTERS = {"a", "s", "h", "b", "w", "l"};
    /** An ITEM of each letter whose numbers are the least that are told, and the greatest. */
    private static final int[][] LEAST = {{0, 0, 0}, {0, 0, 0, 0}, {1, 0}, {1}, {0, 0}, {0, 0}};
    private static final int[][] GREATEST = {{4, 4, 4}, {3, 4, 4, 4}, {9, 60}, {30}, {4, 20}, {99, 9}};
    private static final int[] MOST = {0, 4, 6, 4, 5, 0};

    private static String item(String letter, int... numbers) {
        StringBuilder text = new StringBuilder(letter);
        for (int i = 0; i < numbers.length; i++) {
            text.append(i == 0 ? "" : ",").append(numbers[i]);
        }
        return text.append(';').toString();
    }

    /** The numbers with one of them another one. */
    private static int[] with(int[] numbers, int place, int number) {
        int[] others = numbers.clone();
        others[place] = number;
        return others;
    }

    /** Not so as the whole TEXT, behind others, ahead of others. */
    private static void dueFaulty(String item) {
        due("fault() of " + item, faultOf(item), 0);
        due("fault() of " + item + " behind another", faultOf("l1,1;" + item), 5);
        due("fault() of " + item + " between others", faultOf("l1,1;b30;" + item + "b1;"), 9);
        due("lay() of " + item, written(DULL + item).lay(), NO);
    }

    private static void dueRight(String item) {
        due("fault() of " + item, faultOf(item), NONE);
        due("fault() of " + item + " behind another", faultOf("l1,1;" + item), NONE);
        due("fault() of " + item + " ahead of a faulty one", faultOf(item + "!"), item.length());
    }

    // ---- 1

    private static void constants() {
        sentence("BAD = -1, NO = -2, FULL = -3, NONE = -4");
        due("BAD", WhaleTown.BAD, BAD);
        due("NO", WhaleTown.NO, NO);
        due("FULL", WhaleTown.FULL, FULL);
        due("NONE", WhaleTown.NONE, NONE);
    }

    private static void newText() {
        sentence("WhaleTown(): THE TEXT is empty");
        due("count(7)", new WhaleTown().count(7), 0);
        due("wipe()", new WhaleTown().wipe(), 0);
        due("fault()", new WhaleTown().fault(), NONE);
        due("write", new WhaleTown().write('b'), 1);
    }

    private static void newDiary() {
        sentence("WhaleTown(): THE DIARY, what is TOLD ahead, KEPT are empty");
        WhaleTown x = new WhaleTown();
        dueCounts("new", x, 4, 4, 3, 3, 0, 0, 0, 0, 15);
        due("undo()", x.undo(), NO);
        due("diary(0, 0)", x.diary(0, 0), BAD);
        due("back()", x.back(), NO);
        due("forget()", x.forget(), 0);
        due("first()", x.first(), 15);
        due("orders()", x.orders(), 24);
        due("feigned()", x.feigned(), NONE);
    }

    private static void newTown() {
        sentence("LAID: at first a1,2,1;s0,1,2,3;s1,0,2,4;s2,4,3,1;s3,2,2,2;h4,10;h3,25;h6,5;h2,40;b8;b5;b9;w1,6;w0,2;w2,9;l60,5;");
        WhaleTown x = new WhaleTown();
        int[] signs = {0, 1, 2, 3, 1, 0, 2, 4, 2, 4, 3, 1, 3, 2, 2, 2};
        for (int i = 0; i < 16; i++) {
            due("sign(" + i / 4 + ", " + i % 4 + ")", x.sign(i / 4, i % 4), signs[i]);
        }
        int[] noise = {0, 1, 0, 1, 2, 3, 2, 3};
        int[] gain = {0, 6, 2, 8, 9, 15, 11, 17};
        for (int set = 0; set < 8; set++) {
            due("works(" + set + ", 0)", x.works(set, 0), noise[set]);
            due("works(" + set + ", 1)", x.works(set, 1), gain[set]);
        }
        int[] minutes = {0, 4, 5, 9, 10, 24, 25, 39, 40, 99};
        int[] saved = {0, 0, 6, 6, 10, 10, 13, 13, 15, 15};
        for (int i = 0; i < minutes.length; i++) {
            due("saved(" + minutes[i] + ")", x.saved(minutes[i]), saved[i]);
        }
        int[] boats = {5, 0, 0, 2, 2};
        for (int h = -1; h < 4; h++) {
            due("crews(" + h + ")", x.crews(h), boats[h + 1]);
        }
        // 15, 10, 5, 60 by 1 of 32.
        dueShare("board(0)", x.board(0, 1), x.board(0, 2), 15, 8);
        dueShare("near(3, 0)", x.near(3, 0, 0), x.near(3, 0, 1), 1, 32);
        dueShare("near(3, 1)", x.near(3, 1, 0), x.near(3, 1, 1), 3, 16);
        dueShare("near(3, 4)", x.near(3, 4, 0), x.near(3, 4, 1), 9, 16);
    }

    private static void newSleep() {
        sentence("At first its SLEEP is DEEP (0)");
        WhaleTown x = new WhaleTown();
        dueShare("belief(0)", x.belief(0, 0), x.belief(0, 1), 1, 1);
        dueShare("belief(1)", x.belief(1, 0), x.belief(1, 1), 0, 1);
        dueShare("belief(2)", x.belief(2, 0), x.belief(2, 1), 0, 1);
    }

    private static void objectsStandAlone() {
        sentence("WhaleTown(): As told, whatever another object was asked to do");
        WhaleTown x = laid("a4,4,4;s0,0,0,0;h1,1;l1,1;");
        x.day(0, 0);
        x.keep();
        due("count(7) of the other", x.count(7), 26);
        newText();
        newDiary();
        newTown();
        newSleep();
    }

    // ---- 2

    private static void lettersThatAreTold() {
        sentence("write: A letter (32 to 126, as in ASCII)");
        WhaleTown x = new WhaleTown();
        for (int letter = 32; letter <= 126; letter++) {
            due("write(" + letter + ")", x.write(letter), letter - 31);
        }
        dueTold("letter", 32, 126, letter -> new WhaleTown().write(letter));
        // None that would be one if it were cut to a byte or a char.
        int[] cut = {32 + 128, 126 + 128, 65 + 256, 65 + 65536, 65 - 128, 65 - 256, 65 - 65536, 65 + (1 << 24), 0, 10, 13, 9, 160, 255};
        for (int letter : cut) {
            due("write(" + letter + ")", x.write(letter), BAD);
        }
        due("count(7), those that are BAD do not come in", x.count(7), 95);
    }

    private static void comesBehind() {
        sentence("write: A letter comes behind THE TEXT");
        WhaleTown x = new WhaleTown();
        due("write(b)", x.write('b'), 1);
        due("fault() of b", x.fault(), 0);
        due("write(3)", x.write('3'), 2);
        due("fault() of b3", x.fault(), 0);
        due("write(0)", x.write('0'), 3);
        due("fault() of b30", x.fault(), 0);
        due("write(;)", x.write(';'), 4);
        due("fault() of b30;", x.fault(), NONE);
        due("write( )", x.write(' '), 5);
        due("fault() of b30; and a blank", x.fault(), 4);
    }

    private static void twoHundredAtMost() {
        sentence("A TEXT is letters (200 at most); write: FULL");
        WhaleTown x = new WhaleTown();
        for (int i = 1; i <= 200; i++) {
            due("write, number " + i, x.write('l'), i);
        }
        due("the 201st", x.write('l'), FULL);
        due("the 201st again", x.write(32), FULL);
        due("the 201st, 126", x.write(126), FULL);
        due("count(7)", x.count(7), 200);
        due("wipe()", x.wipe(), 200);
        due("write, wiped", x.write('l'), 1);
    }

    private static void badAheadOfFull() {
        sentence("write: BAD; FULL. Of several the first");
        WhaleTown x = written("l".repeat(200));
        dueTold("letter, the text is full", 32, 126, x::write);
        due("write(65), full", x.write(65), FULL);
    }

    private static void fullTextIsAsItWas() {
        sentence("write: FULL: nothing changes then");
        String text = "l1,1;".repeat(38) + "s0,1,1,1;" + "!";
        WhaleTown x = written(text);
        due("write, full", x.write(';'), FULL);
        due("fault()", x.fault(), 199);
        WhaleTown y = written(text.substring(0, 190) + DULL);
        due("count(7) of 199 letters", y.count(7), 199);
        due("write, number 200", y.write('b'), 200);
        due("write, full", y.write('1'), FULL);
        due("fault(), the letters beyond do not come in", y.fault(), 199);
    }

    // ---- 3

    private static void wipeTellsHowLong() {
        sentence("wipe: THE TEXT is empty: how long it was");
        int[] lengths = {0, 1, 2, 199, 200};
        for (int length : lengths) {
            WhaleTown x = written("z".repeat(length));
            due("wipe() of " + length, x.wipe(), length);
            due("wipe() again", x.wipe(), 0);
            due("count(7)", x.count(7), 0);
            due("fault()", x.fault(), NONE);
            due("write", x.write('z'), 1);
            due("fault()", x.fault(), 0);
        }
        WhaleTown x = written("!".repeat(200));
        x.write('!');
        due("wipe() of what was too long", x.wipe(), 200);
    }

    private static void wipeLeavesTheRest() {
        sentence("wipe: THE TEXT alone is empty then");
        WhaleTown x = laid("s0,1,2,3;s1,4,3,2;h9,9;b9;w4,4;");
        x.day(3, 1);
        x.ahead(0, 1);
        x.keep();
        due("wipe()", x.wipe(), 31);
        dueCounts("wiped", x, 2, 1, 1, 1, 1, 1, 1, 0, 9);
        due("sign(1, 1)", x.sign(1, 1), 4);
        due("lay() of the empty text", x.lay(), NO);
        dueCounts("wiped", x, 2, 1, 1, 1, 1, 1, 1, 0, 9);
    }

    private static void nothingIsLeftOfTheOldText() {
        sentence("wipe: THE TEXT is empty, no letter of it comes back");
        WhaleTown x = written("b30;b30;b30;b30;");
        x.wipe();
        x.write('b');
        due("fault() of b, where b30; was", x.fault(), 0);
        x.write('9');
        due("fault() of b9, where b30; was", x.fault(), 0);
        x.write(';');
        due("fault() of b9;, where b30;b30; was", x.fault(), NONE);
    }

    // ---- 4

    private static void noFault() {
        sentence("fault: NONE");
        due("fault() of the empty text", faultOf(""), NONE);
        for (int i = 0; i < 6; i++) {
            dueRight(item(LETTERS[i], LEAST[i]));
            dueRight(item(LETTERS[i], GREATEST[i]));
        }
        due("fault() of the first text", faultOf(FIRST), NONE);
    }

    private static void eachNumberHasItsEnds() {
        sentence("fault: each number of an ITEM, from the least to the greatest that is told");
        for (int i = 0; i < 6; i++) {
            for (int place = 0; place < LEAST[i].length; place++) {
                int least = LEAST[i][place];
                int greatest = GREATEST[i][place];
                for (int number = 0; number < 100; number++) {
                    String item = item(LETTERS[i], with(LEAST[i], place, number));
                    due("fault() of " + item, faultOf(item), number < least || number > greatest ? 0 : NONE);
                }
                dueRight(item(LETTERS[i], with(GREATEST[i], place, least)));
                if (least > 0) {
                    dueFaulty(item(LETTERS[i], with(GREATEST[i], place, least - 1)));
                }
                if (greatest < 99) {
                    dueFaulty(item(LETTERS[i], with(GREATEST[i], place, greatest + 1)));
                    dueFaulty(item(LETTERS[i], with(LEAST[i], place, 99)));
                }
            }
        }
    }

    private static void asManyNumbersAsAreTold() {
        sentence("fault: an ITEM has as many numbers as are told");
        for (int i = 0; i < 6; i++) {
            for (int many = 0; many <= 8; many++) {
                int[] ones = new int[many];
                java.util.Arrays.fill(ones, 1);
                if (many == LEAST[i].length) {
                    dueRight(item(LETTERS[i], ones));
                } else {
                    dueFaulty(item(LETTERS[i], ones));
                }
            }
        }
    }

    private static void sixLetters() {
        sentence("fault: ITEMS, each a letter");
        String[] numbers = {"1", "1,1", "1,1,1", "1,1,1,1"};
        for (char letter = 32; letter <= 126; letter++) {
            for (int many = 1; many <= 4; many++) {
                int i = java.util.Arrays.asList(LETTERS).indexOf(String.valueOf(letter));
                boolean so = i >= 0 && LEAST[i].length == many;
                String item = letter + numbers[many - 1] + ";";
                due("fault() of " + item, faultOf(item), so ? NONE : 0);
            }
        }
    }

    private static void oneOrTwoFigures() {
        sentence("fault: numbers (one or two figures)");
        String[] right = {"b1;", "b9;", "b01;", "b09;", "b10;", "b30;", "a00,04,4;", "h01,00;", "h9,60;", "w04,20;", "l00,00;", "l99,09;",
            "s03,04,00,01;"};
        for (String item : right) {
            dueRight(item);
        }
        String[] faulty = {"b;", "b,;", "b001;", "b010;", "b100;", "b000;", "a1,,1;", "a,1,1;", "a1,1,;", "a001,1,1;", "a1,001,1;", "a1,1,001;",
            "h1,060;", "h001,1;", "w1,020;", "l099,1;", "l1,009;", "l100,1;", "s000,1,1,1;", "s1,1,1,000;"};
        for (String item : faulty) {
            dueFaulty(item);
        }
    }

    private static void figuresAlone() {
        sentence("fault: figures 0 to 9, parted by , and a ; behind the last one");
        for (char letter = 32; letter <= 126; letter++) {
            boolean figure = letter >= '0' && letter <= '9';
            due("fault() of b" + letter + ";", faultOf("b" + letter + ";"), figure && letter > '0' ? NONE : 0);
            due("fault() of l1" + letter + ",1;", faultOf("l1" + letter + ",1;"), figure ? NONE : 0);
            due("fault() of l1" + letter + "1;", faultOf("l1" + letter + "1;"), letter == ',' ? NONE : 0);
            due("fault() of b1" + letter, faultOf("b1" + letter), letter == ';' ? NONE : 0);
            due("fault() of l1,1" + letter, faultOf("l1,1" + letter), letter == ';' ? NONE : 0);
        }
    }

    private static void oneBehindTheOther() {
        sentence("fault: ITEMS one behind the other");
        for (char letter = 32; letter <= 126; letter++) {
            due("fault() of b1;" + letter, faultOf("b1;" + letter), 3);
            if (letter != 'b') {
                due("fault() of b1;" + letter + "b1;", faultOf("b1;" + letter + "b1;"), 3);
                due("fault() of " + letter + "b1;", faultOf(letter + "b1;"), 0);
            }
        }
    }

    private static void itemsThatBreakOff() {
        sentence("fault: a ; behind the last number");
        for (int i = 0; i < 6; i++) {
            String item = item(LETTERS[i], GREATEST[i]);
            for (int length = 1; length < item.length(); length++) {
                String part = item.substring(0, length);
                due("fault() of " + part, faultOf(part), 0);
                due("fault() of l1,1;b1;" + part, faultOf("l1,1;b1;" + part), 8);
                due("lay() of " + part, written(DULL + part).lay(), NO);
            }
        }
    }

    private static void asManyOfAKind() {
        sentence("fault: 4 SIGNS, 6 HOUSES, 4 BOATS, 5 WORKS at most");
        for (int i = 1; i < 5; i++) {
            String item = item(LETTERS[i], GREATEST[i]);
            int length = item.length();
            due("fault() of as many " + LETTERS[i], faultOf(item.repeat(MOST[i])), NONE);
            due("fault() of one more " + LETTERS[i], faultOf(item.repeat(MOST[i] + 1)), MOST[i] * length);
            due("fault() of two more " + LETTERS[i], faultOf(item.repeat(MOST[i] + 2)), MOST[i] * length);
            due("fault() of one more, apart", faultOf(item.repeat(MOST[i]) + "l1,1;" + item), MOST[i] * length + 5);
            due("lay() of one more", written((i == 1 ? "" : DULL) + item.repeat(MOST[i] + 1)).lay(), NO);
        }
        // Of sleeps and costs there can be any number.
        due("fault() of 28 a", faultOf("a1,1,1;".repeat(28)), NONE);
        due("fault() of 40 l", faultOf("l1,1;".repeat(40)), NONE);
    }

    private static void firstOfSeveralFaults() {
        sentence("FAULT: the place of the first letter of the first ITEM that is not so");
        due("three faulty ones", faultOf("b1;b0;b31;b;"), 3);
        due("a faulty last one", faultOf("b1;b2;b3;b4;h0,0;"), 12);
        due("the fifth boat ahead of a faulty house", faultOf("b1;b2;b3;b4;b5;h0,0;"), 12);
        due("a faulty house ahead of the fifth boat", faultOf("b1;b2;b3;b4;h0,0;b5;"), 12);
        // What is so behind a faulty one does not count, nor does the faulty one itself.
        due("a faulty boat, then four", faultOf("b0;b1;b2;b3;b4;"), 0);
        // It is the item's place, not that of the letter that is wrong.
        due("wrong in its last number", faultOf("l1,1;s0,1,1,5;"), 5);
        due("wrong in its last letter", faultOf("l1,1;s0,1,1,1:"), 5);
    }

    private static void faultsAtTheEndOfAFullText() {
        sentence("FAULT: the place (from 0 on), 199 at most");
        String full = "l1,1;".repeat(40);
        due("the whole text is so", faultOf(full), NONE);
        for (int cut = 1; cut <= 4; cut++) {
            String text = "l1,1;".repeat(39) + "b1;b1;".substring(0, 5 - cut) + "!".repeat(cut);
            due("fault() of .." + text.substring(190), faultOf(text), cut <= 2 ? 198 : 195);
        }
        due("an odd last letter", faultOf("l1,1;".repeat(38) + DULL + "!"), 199);
        due("an item that begins at the last letter", faultOf("l1,1;".repeat(38) + DULL + "b"), 199);
        due("the last ; is wanting", faultOf(full.substring(0, 199)), 195);
        due("the last ; is another letter", faultOf(full.substring(0, 199) + ","), 195);
    }

    private static void faultChangesNothing() {
        sentence("fault: what is LAID stays");
        WhaleTown x = laid("s0,1,2,3;b7;h7,7;");
        x.wipe();
        write(x, "a4,4,4;s3,0,0,0;s3,0,0,0;b30;w4,20;h9,60;l99,9;b0;");
        due("fault()", x.fault(), 47);
        due("fault() again", x.fault(), 47);
        dueCounts("laid", x, 1, 1, 1, 0, 0, 0, 0, 50, 7);
        due("sign(0, 0)", x.sign(0, 0), 0);
        due("saved(7)", x.saved(7), 7);
        dueShare("near", x.near(3, 0, 0), x.near(3, 0, 1), 1, 64);
        dueShare("board", x.board(0, 1), x.board(0, 2), 15, 16);
    }

    // ---- 5

    private static void layWithoutASign() {
        sentence("LAID is a TEXT without FAULT, of a SIGN at least (NO else)");
        String[] none = {"", "a1,1,1;", "h1,1;b1;w1,1;l1,1;", "S0,1,1,1;", DULL + "!", "!" + DULL, "s0,2,2,2", "s0,2,2,2;s", DULL.repeat(5)};
        for (String text : none) {
            WhaleTown x = written(text);
            x.day(15, 7);
            x.ahead(0, 1);
            x.keep();
            due("lay() of " + text, x.lay(), NO);
            dueCounts("what is laid stays", x, 4, 4, 3, 3, 1, 1, 1, text.length(), 15);
            due("sign(3, 0)", x.sign(3, 0), 3);
            due("crews(-1)", x.crews(-1), 5);
        }
    }

    private static void layTellsHowManySigns() {
        sentence("lay: LAID: how many SIGNS");
        for (int signs = 1; signs <= 4; signs++) {
            WhaleTown x = written(DULL.repeat(signs));
            due("lay() of " + signs, x.lay(), signs);
            dueCounts("laid", x, signs, 0, 0, 0, 0, 0, 0, 9 * signs, 0);
            due("first()", x.first(), (1 << signs) - 1);
        }
    }

    private static void layEmptiesAll() {
        sentence("lay: THE DIARY, what is TOLD ahead, KEPT are empty (THE TEXT stays)");
        WhaleTown x = written(FIRST);
        for (int i = 0; i < 5; i++) {
            x.day(15, 7);
        }
        for (int i = 0; i < 8; i++) {
            x.ahead(0, 1);
        }
        x.keep();
        x.keep();
        dueCounts("ahead of it", x, 4, 4, 3, 3, 5, 8, 2, FIRST.length(), 15);
        due("lay()", x.lay(), 4);
        dueCounts("laid", x, 4, 4, 3, 3, 0, 0, 0, FIRST.length(), 15);
        due("undo()", x.undo(), NO);
        due("back()", x.back(), NO);
        due("diary(0, 0)", x.diary(0, 0), BAD);
        due("orders()", x.orders(), 24);
        due("belief(0, 0)", x.belief(0, 0), 1);
        due("fault()", x.fault(), NONE);
        due("lay() again", x.lay(), 4);
        due("wipe()", x.wipe(), FIRST.length());
        due("keep(), anew", x.keep(), 1);
        due("day(15, 7), anew", x.day(15, 7), 1);
        due("ahead(3, 0), anew", x.ahead(3, 0), 1);
    }

    /** A small town, laid behind the greatest one twice. */
    private static WhaleTown laidBehindTheGreatest(String signs, String text) {
        WhaleTown x = laid(signs.repeat(4) + "h9,0;".repeat(6) + "b30;".repeat(4) + "w4,20;".repeat(5) + "a4,4,4;l1,1;");
        x.lay();
        x.wipe();
        write(x, text);
        due("lay() of " + text, x.lay(), text.length() - text.replace("s", "").length());
        return x;
    }

    private static void nothingIsLeftOfTheOldTown() {
        sentence("lay: LAID is the TEXT alone: nothing is left of what was LAID ahead of it");
        String[] olds = {DULL, "s0,4,4,4;", "s3,0,0,0;"};
        for (String old : olds) {
            WhaleTown x = laidBehindTheGreatest(old, "s0,1,1,1;b5;w0,3;");
            dueCounts("laid", x, 1, 0, 1, 1, 0, 0, 0, 17, 0);
            due("tells(0)", x.tells(0), 0);
            due("sign(1, 0)", x.sign(1, 0), BAD);
            due("saved(99), no houses", x.saved(99), 0);
            due("crews(-1), no houses", x.crews(-1), NONE);
            due("quiet(100, 0)", x.quiet(100, 0), 1);
            due("quiet(100, 1)", x.quiet(100, 1), 3);
            dueShare("near(3, 1)", x.near(3, 1, 0), x.near(3, 1, 1), 1, 64);
            dueShare("board(0)", x.board(0, 1), x.board(0, 2), 15, 16);
            due("first()", x.first(), 1);
            due("day(0, 0)", x.day(0, 0), 1);
            dueShare("belief(0)", x.belief(0, 0), x.belief(0, 1), 3, 4);
            WhaleTown y = laidBehindTheGreatest(old, DULL + "h9,0;h8,1;b8;b8;");
            due("saved(0)", y.saved(0), 9);
            due("saved(99)", y.saved(99), 16);
            due("count(8)", y.count(8), 17);
            due("crews(-1)", y.crews(-1), NONE);
            WhaleTown z = laidBehindTheGreatest(old, DULL + "h9,0;");
            due("saved(0), no boats", z.saved(0), 0);
            due("crews(0), no boats", z.crews(0), NONE);
            due("works(0, 1)", z.works(0, 1), 0);
            due("works(1, 1)", z.works(1, 1), BAD);
        }
    }

    private static void layTheLongest() {
        sentence("A TEXT is letters (200 at most), with as many ITEMS of each kind as can be");
        String text = "a0,0,0;".repeat(8) + "l0,0;" + "h9,60;".repeat(6) + "s3,4,4,4;".repeat(4) + "b30;".repeat(4) + "w4,20;".repeat(5)
                + "a4,4,4;" + "l99,9;";
        due("letters", text.length(), 192);
        String full = "a1,1,1;" + text;
        WhaleTown x = laid(full);
        due("count(7)", x.count(7), 199);
        dueCounts("laid", x, 4, 6, 4, 5, 0, 0, 0, 199, 54);
        due("sign(3, 3)", x.sign(3, 3), 4);
        due("works(31, 0)", x.works(31, 0), 20);
        due("works(31, 1)", x.works(31, 1), 100);
        due("saved(59)", x.saved(59), 0);
        due("saved(60)", x.saved(60), 54);
        due("crews(-1)", x.crews(-1), 3);
        due("near(3, 0, 0)", x.near(3, 0, 0), 1);
        // 27, 18, 9, 99.
        due("board(0, 0)", x.board(0, 0), 2);
        due("board(0, 1)", x.board(0, 1), 9);
        WhaleTown y = written(full);
        due("write, number 200", y.write('b'), 200);
        due("lay() with a fault at 199", y.lay(), NO);
        String whole = "l1,1;".repeat(38) + "s3,04,4,4;";
        due("letters", whole.length(), 200);
        due("lay() of 200 letters, the sign the last item", written(whole).lay(), 1);
    }

    private static void sleepsWithout() {
        sentence("aA,B,C: 1, 1, 1 without; of several the last one counts");
        WhaleTown x = laid(DULL + "w0,0;");
        dueShare("near(3) without", x.near(3, 0, 0), x.near(3, 0, 1), 1, 64);
        due("day", x.day(0, 0), 1);
        dueShare("belief(1) without", x.belief(1, 0), x.belief(1, 1), 1, 4);
        String[] texts = {"a0,0,0;a1,2,3;", "a4,4,4;a0,1,0;a1,2,3;", "a1,2,3;"};
        for (String text : texts) {
            WhaleTown y = laid(text + DULL);
            dueShare("near(3) of " + text, y.near(3, 0, 0), y.near(3, 0, 1), 3, 32);
            y.day(0, 0);
            dueShare("belief(1) of " + text, y.belief(1, 0), y.belief(1, 1), 1, 4);
        }
        WhaleTown z = laid("a4,4,4;" + DULL + "a4,0,4;");
        due("near(3), the last has a 0", z.near(3, 0, 0), 0);
        // A text without one, behind one with it.
        x.wipe();
        write(x, "a4,4,4;" + DULL);
        x.lay();
        due("near(3) of a4,4,4;", x.near(3, 0, 1), 1);
        x.wipe();
        write(x, DULL);
        x.lay();
        due("near(3) without, again", x.near(3, 0, 1), 64);
    }

    private static void costsWithout() {
        sentence("lV,E: 60, 5 without; of several the last one counts");
        // It turns on the third day: 3 E, 2 E, E, V.
        WhaleTown x = laid("a4,4,4;" + DULL);
        due("board, two days' boats", x.board(0, 1), 5);
        WhaleTown y = laid("a4,4,0;" + DULL);
        y.day(0, 0);
        y.day(0, 0);
        due("board, it never turns", y.board(0, 1), 0);
        // 15 and 60 by 1 of 4.
        WhaleTown z = laid("a4,4,1;" + DULL + "w1,0;");
        z.day(0, 0);
        z.day(0, 0);
        // k 0: 15; k 1: 10 and 60 by 1/4; so 15 is the least, and of two with noise, too.
        due("board without, 60 by 1 of 4 is 15", z.board(0, 0), 0);
        due("board without", z.board(0, 1), 15);
        WhaleTown v = laid("l1,9;a4,4,1;" + DULL + "l60,6;l2,3;");
        v.day(0, 0);
        v.day(0, 0);
        // 9, 6 and 2 by 1/4, 3 and 2 by 7/16, 2 by 37/64.
        dueShare("board, the last l counts", v.board(0, 1), v.board(0, 2), 37, 32);
        WhaleTown w = laid("l99,0;a4,4,4;" + DULL + "l0,9;");
        due("board of l0,9", w.board(0, 0), 3);
        due("board of l0,9", w.board(0, 1), 0);
        WhaleTown u = laid("l0,9;a4,4,4;" + DULL + "l99,0;");
        due("board of l99,0", u.board(0, 0), 0);
        due("board of l99,0", u.board(0, 1), 0);
    }

    private static void numberedAsTheyCome() {
        sentence("s, h, b, w: 0, 1, .. as they come in THE TEXT");
        WhaleTown x = laid("w1,1;b1;h1,0;s0,0,1,2;h2,10;w2,3;b9;s1,1,2,3;s2,2,3,4;b2;h3,20;w3,9;s3,3,4,0;h4,30;w4,20;b30;h5,40;w0,5;h6,60;");
        for (int k = 0; k < 4; k++) {
            int[] due = {k, k, k + 1, k == 3 ? 0 : k + 2};
            for (int what = 0; what < 4; what++) {
                due("sign(" + k + ", " + what + ")", x.sign(k, what), due[what]);
            }
        }
        int[] noise = {1, 2, 3, 4, 0};
        int[] gain = {1, 3, 9, 20, 5};
        for (int w = 0; w < 5; w++) {
            due("works(" + (1 << w) + ", 0)", x.works(1 << w, 0), noise[w]);
            due("works(" + (1 << w) + ", 1)", x.works(1 << w, 1), gain[w]);
        }
        // 21 people into a boat of 30 at place 3; at 40 minutes they are 15.
        due("crews(-1)", x.crews(-1), 8);
        due("saved(40)", x.saved(40), 15);
        due("saved(60)", x.saved(60), 21);
    }

    // ---- 6

    private static void signsSuchAsThereAre() {
        sentence("sign: KIND (what = 0), P, Q, R (1 to 3). BAD");
        String text = "s0,0,4,1;s1,1,3,2;s2,2,2,3;s3,3,1,4;";
        int[] numbers = {0, 0, 4, 1, 1, 1, 3, 2, 2, 2, 2, 3, 3, 3, 1, 4};
        for (int signs = 1; signs <= 4; signs++) {
            WhaleTown x = laid(text.substring(0, 9 * signs));
            dueTold("sign k of " + signs, 0, signs - 1, k -> x.sign(k, 0));
            dueTold("sign what of " + signs, 0, 3, what -> x.sign(0, what));
            for (int i = 0; i < 4 * signs; i++) {
                due("sign(" + i / 4 + ", " + i % 4 + ") of " + signs, x.sign(i / 4, i % 4), numbers[i]);
            }
            due("sign, both BAD", x.sign(signs, 4), BAD);
            due("sign, that would be another's number", x.sign(signs - 1, 4), BAD);
            due("sign, that would be the last one's number", x.sign(signs, -1), BAD);
        }
    }

    // ---- 7

    private static void setsOfWorksSuchAsThereAre() {
        sentence("works: sets of WORKS, such as there are. BAD");
        String text = "w4,20;w3,9;w2,5;w1,2;w0,1;";
        int[] noise = {4, 3, 2, 1, 0};
        int[] gain = {20, 9, 5, 2, 1};
        int[] lengths = {0, 6, 11, 16, 21, 26};
        for (int many = 0; many <= 5; many++) {
            WhaleTown x = laid(DULL + text.substring(0, lengths[many]));
            dueTold("works set of " + many, 0, (1 << many) - 1, set -> x.works(set, 1));
            dueTold("works what of " + many, 0, 1, what -> x.works(0, what));
            int noiseInAll = 0;
            int gainInAll = 0;
            for (int w = 0; w < many; w++) {
                noiseInAll += noise[w];
                gainInAll += gain[w];
                due("works(" + (1 << w) + ", 0)", x.works(1 << w, 0), noise[w]);
                due("works(" + (1 << w) + ", 1)", x.works(1 << w, 1), gain[w]);
                due("works of the first, 0", x.works((2 << w) - 1, 0), noiseInAll);
                due("works of the first, 1", x.works((2 << w) - 1, 1), gainInAll);
            }
            due("works(0, 0)", x.works(0, 0), 0);
            due("works(0, 1)", x.works(0, 1), 0);
            due("works, both BAD", x.works(1 << many, 2), BAD);
        }
    }

    private static void worksTogether() {
        sentence("works: Of WORKS, together: NOISE, what they bring");
        WhaleTown x = laid(DULL + "w4,20;".repeat(5));
        for (int set = 0; set < 32; set++) {
            due("works(" + set + ", 0)", x.works(set, 0), 4 * Integer.bitCount(set));
            due("works(" + set + ", 1)", x.works(set, 1), 20 * Integer.bitCount(set));
        }
    }

    public static void main(String[] args) {
        constants();
        newText();
        newDiary();
        newTown();
        newSleep();
        objectsStandAlone();
        lettersThatAreTold();
        comesBehind();
        twoHundredAtMost();
        badAheadOfFull();
        fullTextIsAsItWas();
        wipeTellsHowLong();
        wipeLeavesTheRest();
        nothingIsLeftOfTheOldText();
        noFault();
        eachNumberHasItsEnds();
        asManyNumbersAsAreTold();
        sixLetters();
        oneOrTwoFigures();
        figuresAlone();
        oneBehindTheOther();
        itemsThatBreakOff();
        asManyOfAKind();
        firstOfSeveralFaults();
        faultsAtTheEndOfAFullText();
        faultChangesNothing();
        layWithoutASign();
        layTellsHowManySigns();
        layEmptiesAll();
        nothingIsLeftOfTheOldTown();
        layTheLongest();
        sleepsWithout();
        costsWithout();
        numberedAsTheyCome();
        signsSuchAsThereAre();
        setsOfWorksSuchAsThereAre();
        worksTogether();
        end();
    }
}
