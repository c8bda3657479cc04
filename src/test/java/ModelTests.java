/** Long runs of calls, the same ones each time, on the class and on the model: each answer is held against the other. */
public final class ModelTests {
    private static final int RUNS = 1500, CALLS = 512;
    private static final String ODD = "ashbwlx0123456789,;, ;A/:.~";

    private static int wrong = 0;
    private static long calls = 0;
    private static long state;

    private static int below(int bound) {
        state = state * 6364136223846793005L + 1442695040888963407L;
        return (int) ((state >>> 33) % bound);
    }

    private static int from(int low, int high) {
        return low + below(high - low + 1);
    }

    /** Mostly one of those that are told, now and then one beside them. */
    private static int pick(int low, int high) {
        int way = below(40);
        if (way > 1 || high < low) {
            return high < low ? low : from(low, high);
        }
        if (way == 1) {
            return below(2) == 0 ? low - 1 : high + 1;
        }
        int[] far = {Integer.MIN_VALUE, Integer.MAX_VALUE, -100, 1000000, -2, 31, 32, 33, 63, 64};
        return far[below(far.length)];
    }

    private static int set(int things) {
        return pick(0, (1 << things) - 1);
    }

    /** In every other text never for sure, so that most diaries can be. */
    private static boolean mild;

    private static String ofFour() {
        if (mild) {
            return String.valueOf(from(1, 3));
        }
        int way = below(5);
        return String.valueOf(way == 0 ? 0 : way == 1 ? 4 : from(0, 4));
    }

    private static String item(char letter) {
        switch (letter) {
            case 'a': return "a" + ofFour() + "," + ofFour() + "," + ofFour() + ";";
            case 's': return "s" + from(0, 3) + "," + ofFour() + "," + ofFour() + "," + ofFour() + ";";
            case 'h': return "h" + from(1, 9) + "," + from(0, 60) + ";";
            case 'b': return "b" + (below(3) == 0 ? from(1, 30) : from(4, 14)) + ";";
            case 'w': return "w" + (below(2) == 0 ? from(0, 1) : from(0, 4)) + "," + from(0, 20) + ";";
            default: return "l" + from(0, 99) + "," + from(0, 9) + ";";
        }
    }

    private static String text() {
        int[] most = {2, 4, 6, 4, 5, 2};
        StringBuilder text = new StringBuilder();
        mild = below(2) == 0;
        for (int i = 0; i < 6; i++) {
            int many = i == 1 ? from(1, 4) : from(0, most[i]);
            for (int j = 0; j < many + (below(60) == 0 ? 2 : 0); j++) {
                String item = item("ashbwl".charAt(i));
                // Now here, now there, so that items of a kind stand apart.
                int place = below(3) == 0 ? 0 : text.length();
                text.insert(place, item);
            }
        }
        for (int i = 0; i < 3 && below(3) == 0 && text.length() > 0; i++) {
            int place = below(text.length());
            char odd = ODD.charAt(below(ODD.length()));
            switch (below(3)) {
                case 0: text.setCharAt(place, odd); break;
                case 1: text.insert(place, odd); break;
                default: text.deleteCharAt(place);
            }
        }
        return text.toString();
    }

    private static void hold(String call, long got, long due) {
        calls++;
        if (got != due && wrong++ < 20) {
            System.out.println(call + " answered " + got + ", the model " + due);
        }
    }

    private static String call(String name, int... numbers) {
        StringBuilder call = new StringBuilder(name);
        for (int n : numbers) {
            call.append(' ').append(n);
        }
        return call.toString();
    }

    private static int writeText(WhaleTown x, Model m, int left) {
        int used = 0;
        hold("wipe", x.wipe(), m.wipe());
        String text = text();
        for (int i = 0; i < text.length() && used < left - 3; i++) {
            hold("write in " + text, x.write(text.charAt(i)), m.write(text.charAt(i)));
            used++;
        }
        hold("fault of " + text, x.fault(), m.fault());
        hold("lay of " + text, x.lay(), m.lay());
        return used + 3;
    }

    private static void oneCall(WhaleTown x, Model m) {
        int signs = m.count(0);
        int works = m.count(3);
        int a = 0;
        int b = 0;
        int c = 0;
        switch (below(36)) {
            case 0: a = pick(32, 126); hold(call("write", a), x.write(a), m.write(a)); break;
            case 1: hold("fault", x.fault(), m.fault()); break;
            case 2: a = pick(0, signs - 1); b = pick(0, 3); hold(call("sign", a, b), x.sign(a, b), m.sign(a, b)); break;
            case 3: a = set(works); b = pick(0, 1); hold(call("works", a, b), x.works(a, b), m.works(a, b)); break;
            case 4: case 5: case 6: case 7: case 8: case 9:
                a = set(signs); b = below(2) == 0 ? 0 : set(works);
                hold(call("day", a, b), x.day(a, b), m.day(a, b)); break;
            case 10: a = pick(0, m.count(4) - 1); b = pick(0, 1); hold(call("diary", a, b), x.diary(a, b), m.diary(a, b)); break;
            case 11: case 12: case 13: hold("undo", x.undo(), m.undo()); break;
            case 14: case 15: a = pick(0, 2); b = pick(0, 1); hold(call("belief", a, b), x.belief(a, b), m.belief(a, b)); break;
            case 16: case 17: a = pick(1, 3); b = set(works); c = pick(0, 1);
                hold(call("near", a, b, c), x.near(a, b, c), m.near(a, b, c)); break;
            case 18: case 19: a = pick(0, signs - 1); b = set(works); c = pick(0, 1);
                hold(call("sight", a, b, c), x.sight(a, b, c), m.sight(a, b, c)); break;
            case 20: a = set(works); hold(call("tells", a), x.tells(a), m.tells(a)); break;
            case 21: case 22: a = set(works); b = pick(0, 2); hold(call("board", a, b), x.board(a, b), m.board(a, b)); break;
            case 23: case 24: a = pick(0, 100); b = pick(0, 1); hold(call("quiet", a, b), x.quiet(a, b), m.quiet(a, b)); break;
            case 25: a = pick(0, 99); hold(call("saved", a), x.saved(a), m.saved(a)); break;
            case 26: a = pick(-1, m.count(1) - 1); hold(call("crews", a), x.crews(a), m.crews(a)); break;
            default: laterCall(x, m, signs, works);
        }
    }

    private static void laterCall(WhaleTown x, Model m, int signs, int works) {
        int a = 0;
        int b = 0;
        int c = 0;
        switch (below(10)) {
            case 0: a = pick(0, 12); b = pick(0, 6); c = pick(0, 4);
                int d = pick(0, Math.max(0, Math.min(4, 4 - c)));
                int e = pick(0, 1);
                hold(call("drift", a, b, c, d, e), x.drift(a, b, c, d, e), m.drift(a, b, c, d, e)); break;
            case 1: case 2: a = pick(0, signs - 1); b = pick(0, signs - 1); hold(call("ahead", a, b), x.ahead(a, b), m.ahead(a, b)); break;
            case 3: if (below(4) == 0) {
                hold("forget", x.forget(), m.forget());
            } break;
            case 4: hold("first", x.first(), m.first()); break;
            case 5: hold("orders", x.orders(), m.orders()); break;
            case 6: hold("feigned", x.feigned(), m.feigned()); break;
            case 7: a = pick(0, 9999); b = set(works); c = pick(0, 1);
                hold(call("spring", a, b, c), x.spring(a, b, c), m.spring(a, b, c)); break;
            case 8: hold("keep", x.keep(), m.keep()); break;
            default: hold("back", x.back(), m.back());
        }
        if (below(3) == 0) {
            a = pick(0, 8);
            hold(call("count", a), x.count(a), m.count(a));
        }
    }

    public static void main(String[] args) {
        for (int run = 0; run < RUNS && wrong == 0; run++) {
            state = run * 7919L + 1;
            WhaleTown x = new WhaleTown();
            Model m = new Model();
            int left = CALLS;
            while (left > 4) {
                left -= below(120) == 0 || left == CALLS && below(8) > 0 ? writeText(x, m, left) : 0;
                oneCall(x, m);
                left -= 2;
            }
            if (wrong > 0) {
                System.out.println("in run " + run);
            }
        }
        System.out.println(wrong == 0 ? calls + " answers are as the model's" : wrong + " answers are not as the model's");
        if (wrong != 0) {
            System.exit(1);
        }
    }
}
