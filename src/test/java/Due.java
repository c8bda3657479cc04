import java.util.function.IntToLongFunction;

/** What the tests share: each answer is held against the one that is due, under the sentence that asks for it. */
class Due {
    static final int BAD = -1, NO = -2, FULL = -3, NONE = -4;
    static final String FIRST =
            "a1,2,1;s0,1,2,3;s1,0,2,4;s2,4,3,1;s3,2,2,2;h4,10;h3,25;h6,5;h2,40;b8;b5;b9;w1,6;w0,2;w2,9;l60,5;";
    /** A SIGN that tells nothing, as every SLEEP shows it alike. */
    static final String DULL = "s0,2,2,2;";

    private static int held = 0, wrong = 0;
    private static String sentence = "";

    /** The words of the document that what follows holds the class to. */
    static void sentence(String words) {
        sentence = words;
    }

    static void due(String call, long got, long want) {
        held++;
        if (got != want) {
            wrong++;
            System.out.println(sentence + (sentence.isEmpty() ? "" : ": ") + call + " answered " + got + ", due is " + want);
        }
    }

    static void dueShare(String name, long above, long below, long wantAbove, long wantBelow) {
        due(name + " above", above, wantAbove);
        due(name + " below", below, wantBelow);
    }

    static void dueCounts(String name, WhaleTown x, int... counts) {
        for (int what = 0; what < counts.length; what++) {
            due(name + " count(" + what + ")", x.count(what), counts[what]);
        }
    }

    /** A number is told from low to high: no other one is, however near or far. */
    static void dueTold(String name, int low, int high, IntToLongFunction call) {
        int[] told = {low, Math.min(low + 1, high), low + (high - low) / 2, Math.max(high - 1, low), high};
        for (int n : told) {
            due(name + " " + n + " is told, and BAD", call.applyAsLong(n) == BAD ? 1 : 0, 0);
        }
        int[] others = {low - 1, low - 2, high + 1, high + 2, -128, -1000000, 1000000, Integer.MIN_VALUE,
            Integer.MIN_VALUE + low, Integer.MAX_VALUE, Integer.MAX_VALUE - 1, low + 256, high + 65536};
        for (int n : others) {
            if (n < low || n > high) {
                due(name + " " + n, call.applyAsLong(n), BAD);
            }
        }
    }

    static void write(WhaleTown x, String text) {
        for (int i = 0; i < text.length(); i++) {
            due("write of " + text.charAt(i) + " in " + text, x.write(text.charAt(i)), i + 1);
        }
    }

    static WhaleTown written(String text) {
        WhaleTown x = new WhaleTown();
        write(x, text);
        return x;
    }

    /** A new object with this text laid. */
    static WhaleTown laid(String text) {
        WhaleTown x = written(text);
        int signs = text.length() - text.replace("s", "").length();
        due("lay() of " + text, x.lay(), signs);
        return x;
    }

    static int faultOf(String text) {
        return written(text).fault();
    }

    /** The last line of every test's main method. */
    static void end() {
        System.out.println(wrong == 0 ? "all " + held + " answers are as due" : wrong + " answers are not as due");
        if (wrong != 0) {
            System.exit(1);
        }
    }
}
