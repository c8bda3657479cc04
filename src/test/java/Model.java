import java.math.BigInteger;
import java.util.ArrayDeque;
import java.util.ArrayList;
import java.util.List;
import java.util.regex.Matcher;
import java.util.regex.Pattern;

/**
 * The document once more, in the slowest and plainest form: it goes through every single way that days, boats, nights
 * and orders can go, and reckons with fractions. It shares nothing with the class that it is held against.
 */
final class Model {
    static final int BAD = -1, NO = -2, FULL = -3, NONE = -4;

    record Share(BigInteger above, BigInteger below) {
        static final Share ZERO = of(0, 1), ONE = of(1, 1);

        static Share of(long above, long below) {
            return lowest(BigInteger.valueOf(above), BigInteger.valueOf(below));
        }

        static Share lowest(BigInteger above, BigInteger below) {
            BigInteger common = above.gcd(below);
            return new Share(above.divide(common), below.divide(common));
        }

        Share plus(Share o) {
            return lowest(above.multiply(o.below).add(o.above.multiply(below)), below.multiply(o.below));
        }

        Share minus(Share o) {
            return lowest(above.multiply(o.below).subtract(o.above.multiply(below)), below.multiply(o.below));
        }

        Share times(Share o) {
            return lowest(above.multiply(o.above), below.multiply(o.below));
        }

        Share by(Share o) {
            return lowest(above.multiply(o.below), below.multiply(o.above));
        }

        int compare(Share o) {
            return above.multiply(o.below).compareTo(o.above.multiply(below));
        }

        boolean isZero() {
            return above.signum() == 0;
        }

        long part(int part) {
            return (part == 0 ? above : below).longValueExact();
        }
    }

    record Day(int signs, int works) {
    }

    /** What a text tells; fault is -4 if there is none. */
    static final class Laid {
        int[] lighter = {1, 1, 1};
        int[] costs = {60, 5};
        List<int[]> signs = new ArrayList<>(), houses = new ArrayList<>(), boats = new ArrayList<>(), works = new ArrayList<>();
        int fault = NONE;

        private static final Pattern ITEM = Pattern.compile("([ashbwl])([0-9]{1,2}(?:,[0-9]{1,2})*);");

        Laid(String text) {
            Matcher m = ITEM.matcher(text);
            int place = 0;
            while (place < text.length()) {
                m.region(place, text.length());
                if (!m.lookingAt() || !take(m.group(1), m.group(2).split(","))) {
                    fault = place;
                    return;
                }
                place = m.end();
            }
        }

        private boolean take(String letter, String[] figures) {
            int[] n = new int[figures.length];
            for (int i = 0; i < n.length; i++) {
                n[i] = Integer.parseInt(figures[i]);
            }
            switch (letter) {
                case "a":
                    lighter = n;
                    return fits(n, new int[] {0, 0, 0}, new int[] {4, 4, 4});
                case "s":
                    signs.add(n);
                    return signs.size() <= 4 && fits(n, new int[4], new int[] {3, 4, 4, 4});
                case "h":
                    houses.add(n);
                    return houses.size() <= 6 && fits(n, new int[] {1, 0}, new int[] {9, 60});
                case "b":
                    boats.add(n);
                    return boats.size() <= 4 && fits(n, new int[] {1}, new int[] {30});
                case "w":
                    works.add(n);
                    return works.size() <= 5 && fits(n, new int[2], new int[] {4, 20});
                default:
                    costs = n;
                    return fits(n, new int[2], new int[] {99, 9});
            }
        }

        private static boolean fits(int[] n, int[] low, int[] high) {
            boolean fits = n.length == low.length;
            for (int i = 0; fits && i < n.length; i++) {
                fits = n[i] >= low[i] && n[i] <= high[i];
            }
            return fits;
        }
    }

    private final StringBuilder text = new StringBuilder();
    private Laid town = new Laid(
            "a1,2,1;s0,1,2,3;s1,0,2,4;s2,4,3,1;s3,2,2,2;h4,10;h3,25;h6,5;h2,40;b8;b5;b9;w1,6;w0,2;w2,9;l60,5;");
    private List<Day> diary = new ArrayList<>();
    private final ArrayDeque<List<Day>> kept = new ArrayDeque<>();
    private final List<int[]> told = new ArrayList<>();

    int write(int letter) {
        if (letter < 32 || letter > 126) {
            return BAD;
        }
        if (text.length() == 200) {
            return FULL;
        }
        return text.append((char) letter).length();
    }

    int wipe() {
        int length = text.length();
        text.setLength(0);
        return length;
    }

    int fault() {
        return new Laid(text.toString()).fault;
    }

    int lay() {
        Laid read = new Laid(text.toString());
        if (read.fault != NONE || read.signs.isEmpty()) {
            return NO;
        }
        town = read;
        diary.clear();
        kept.clear();
        told.clear();
        return town.signs.size();
    }

    private static boolean in(int number, int below) {
        return number >= 0 && number < below;
    }

    private boolean areSigns(int set) {
        return in(set, (int) Math.pow(2, town.signs.size()));
    }

    private boolean areWorks(int set) {
        return in(set, (int) Math.pow(2, town.works.size()));
    }

    int sign(int k, int what) {
        return in(k, town.signs.size()) && in(what, 4) ? town.signs.get(k)[what] : BAD;
    }

    int works(int set, int what) {
        return areWorks(set) && in(what, 2) ? together(set, what) : BAD;
    }

    private int together(int set, int what) {
        int sum = 0;
        for (int i = 0; i < town.works.size(); i++) {
            sum += set / (int) Math.pow(2, i) % 2 * town.works.get(i)[what];
        }
        return sum;
    }

    int day(int signs, int works) {
        if (!areSigns(signs) || !areWorks(works)) {
            return BAD;
        }
        if (diary.size() == 5) {
            return FULL;
        }
        diary.add(new Day(signs, works));
        return diary.size();
    }

    int diary(int d, int what) {
        if (!in(d, diary.size()) || !in(what, 2)) {
            return BAD;
        }
        return what == 0 ? diary.get(d).signs() : diary.get(d).works();
    }

    int undo() {
        if (diary.isEmpty()) {
            return NO;
        }
        diary.remove(diary.size() - 1);
        return diary.size();
    }

    /** How likely it goes on from a sleep. */
    private Share goesOn(int sleep, int works) {
        return Share.of(Math.min(4, town.lighter[sleep] + together(works, 0)), 4);
    }

    /** How likely exactly these signs are seen, one behind the other. */
    private Share likelySeen(int set, int ahead, int sleep) {
        Share all = Share.ONE;
        boolean lastSeen = false;
        for (int k = 0; k < town.signs.size(); k++) {
            int[] s = town.signs.get(k);
            int ofFour = 0;
            switch (s[0]) {
                case 0: ofFour = s[1 + sleep]; break;
                case 1: ofFour = s[1 + ahead]; break;
                case 2: ofFour = 4 - s[1 + sleep]; break;
                default: ofFour = k == 0 || lastSeen ? s[1 + sleep] : 0;
            }
            lastSeen = (set & 1 << k) != 0;
            all = all.times(Share.of(lastSeen ? ofFour : 4 - ofFour, 4));
        }
        return all;
    }

    /** Goes through all ways of the diary from this day on; adds how likely each is to the sleep where it ends. */
    private void goThrough(int d, int sleep, Share likely, int notLookedAt, Share[] ends) {
        if (d == diary.size()) {
            ends[sleep] = ends[sleep].plus(likely);
            return;
        }
        Day day = diary.get(d);
        Share on = goesOn(sleep, day.works());
        for (int next = sleep; next <= Math.min(2, sleep + 1); next++) {
            Share move = next == sleep ? Share.ONE.minus(on) : on;
            Share seen = d == notLookedAt ? Share.ONE : likelySeen(day.signs(), sleep, next);
            goThrough(d + 1, next, likely.times(move).times(seen), notLookedAt, ends);
        }
    }

    private Share[] ends(int notLookedAt) {
        Share[] ends = {Share.ZERO, Share.ZERO, Share.ZERO};
        goThrough(0, 0, Share.ONE, notLookedAt, ends);
        return ends;
    }

    private Share all(Share[] ends) {
        return ends[0].plus(ends[1]).plus(ends[2]);
    }

    /** null if the diary could not be. */
    private Share[] beliefs() {
        Share[] ends = ends(-1);
        Share all = all(ends);
        return all.isZero() ? null : new Share[] {ends[0].by(all), ends[1].by(all), ends[2].by(all)};
    }

    long belief(int sleep, int part) {
        if (!in(sleep, 3) || !in(part, 2)) {
            return BAD;
        }
        Share[] beliefs = beliefs();
        return beliefs == null ? NONE : beliefs[sleep].part(part);
    }

    private Share turnsFrom(int sleep, int n, int works) {
        if (sleep == 3) {
            return Share.ONE;
        }
        if (n == 0) {
            return Share.ZERO;
        }
        Share on = goesOn(sleep, works);
        Share stays = Share.ONE.minus(on);
        return on.times(turnsFrom(sleep + 1, n - 1, works)).plus(stays.times(turnsFrom(sleep, n - 1, works)));
    }

    private Share turns(Share[] beliefs, int n, int works) {
        Share sum = Share.ZERO;
        for (int sleep = 0; sleep < 3; sleep++) {
            sum = sum.plus(beliefs[sleep].times(turnsFrom(sleep, n, works)));
        }
        return sum;
    }

    long near(int n, int works, int part) {
        if (n < 1 || n > 3 || !areWorks(works) || !in(part, 2)) {
            return BAD;
        }
        Share[] beliefs = beliefs();
        return beliefs == null ? NONE : turns(beliefs, n, works).part(part);
    }

    /** null if there is none. */
    private Share seenTomorrow(int k, int works) {
        Share[] beliefs = beliefs();
        if (beliefs == null) {
            return null;
        }
        Share seen = Share.ZERO;
        Share not = Share.ZERO;
        for (int sleep = 0; sleep < 3; sleep++) {
            Share on = goesOn(sleep, works);
            for (int next = sleep; next <= Math.min(2, sleep + 1); next++) {
                Share here = beliefs[sleep].times(next == sleep ? Share.ONE.minus(on) : on);
                for (int set = 0; areSigns(set); set++) {
                    Share likely = here.times(likelySeen(set, sleep, next));
                    if ((set & 1 << k) != 0) {
                        seen = seen.plus(likely);
                    } else {
                        not = not.plus(likely);
                    }
                }
            }
        }
        return seen.plus(not).isZero() ? null : seen.by(seen.plus(not));
    }

    long sight(int k, int works, int part) {
        if (!in(k, town.signs.size()) || !areWorks(works) || !in(part, 2)) {
            return BAD;
        }
        Share seen = seenTomorrow(k, works);
        return seen == null ? NONE : seen.part(part);
    }

    int tells(int works) {
        if (!areWorks(works)) {
            return BAD;
        }
        int best = NONE;
        Share least = null;
        for (int k = 0; k < town.signs.size(); k++) {
            Share seen = seenTomorrow(k, works);
            if (seen == null) {
                return NONE;
            }
            Share away = seen.minus(Share.of(1, 2));
            away = away.compare(Share.ZERO) < 0 ? Share.ZERO.minus(away) : away;
            if (least == null || away.compare(least) < 0) {
                least = away;
                best = k;
            }
        }
        return best;
    }

    long board(int works, int what) {
        if (!areWorks(works) || !in(what, 3)) {
            return BAD;
        }
        Share[] beliefs = beliefs();
        if (beliefs == null) {
            return NONE;
        }
        int best = 0;
        Share least = null;
        for (int k = 0; k <= 3; k++) {
            Share cost = Share.of(town.costs[0], 1).times(turns(beliefs, k, works)).plus(Share.of((3 - k) * town.costs[1], 1));
            if (least == null || cost.compare(least) < 0) {
                least = cost;
                best = k;
            }
        }
        return what == 0 ? best : least.part(what - 1);
    }

    int quiet(int x, int what) {
        if (!in(x, 101) || !in(what, 2)) {
            return BAD;
        }
        Share[] beliefs = beliefs();
        int best = NONE;
        for (int set = 0; beliefs != null && areWorks(set); set++) {
            boolean quiet = turns(beliefs, 3, set).compare(Share.of(x, 100)) <= 0;
            if (quiet && (best == NONE || together(set, 1) > together(best, 1))) {
                best = set;
            }
        }
        return best == NONE || what == 0 ? best : together(best, 1);
    }

    int saved(int t) {
        if (!in(t, 100)) {
            return BAD;
        }
        int room = 0;
        for (int[] boat : town.boats) {
            room += boat[0];
        }
        int people = 0;
        for (int[] house : town.houses) {
            for (int i = 0; i < house[0] && house[1] <= t && people < room; i++) {
                people++;
            }
        }
        return people;
    }

    private int[] bestCrews;
    private int bestBoats;

    private void send(int[] to, int house) {
        if (house == to.length) {
            int[] load = new int[town.boats.size()];
            int boats = 0;
            for (int h = 0; h < to.length; h++) {
                load[to[h]] += town.houses.get(h)[0];
                boats |= 1 << to[h];
            }
            for (int b = 0; b < load.length; b++) {
                if (load[b] > town.boats.get(b)[0]) {
                    return;
                }
            }
            int fewer = Integer.bitCount(boats) - Integer.bitCount(bestBoats);
            if (bestCrews == null || fewer < 0 || fewer == 0 && boats < bestBoats) {
                bestCrews = to.clone();
                bestBoats = boats;
            }
            return;
        }
        for (int b = 0; b < town.boats.size(); b++) {
            to[house] = b;
            send(to, house + 1);
        }
    }

    int crews(int h) {
        if (h < -1 || h >= town.houses.size()) {
            return BAD;
        }
        bestCrews = null;
        bestBoats = 0;
        if (!town.houses.isEmpty()) {
            send(new int[town.houses.size()], 0);
        }
        if (bestCrews == null) {
            return NONE;
        }
        return h == -1 ? bestBoats : bestCrews[h];
    }

    private static long waysTo(int miles, int n, int e, int f) {
        if (n == 0) {
            return miles == 0 ? 1 : 0;
        }
        return e * waysTo(miles - 1, n - 1, e, f) + f * waysTo(miles + 1, n - 1, e, f)
                + (4 - e - f) * waysTo(miles, n - 1, e, f);
    }

    int drift(int m, int n, int e, int f, int part) {
        if (!in(m, 13) || !in(n, 7) || !in(e, 5) || !in(f, 5) || e + f > 4 || !in(part, 2)) {
            return BAD;
        }
        return (int) Share.of(waysTo(m - 6, n, e, f), (long) Math.pow(4, n)).part(part);
    }

    int ahead(int a, int b) {
        if (!in(a, town.signs.size()) || !in(b, town.signs.size()) || a == b) {
            return BAD;
        }
        if (told.size() == 8) {
            return FULL;
        }
        told.add(new int[] {a, b});
        return told.size();
    }

    int forget() {
        int size = told.size();
        told.clear();
        return size;
    }

    private int ordersFrom(List<Integer> order) {
        if (order.size() == town.signs.size()) {
            for (int[] pair : told) {
                if (order.indexOf(pair[0]) > order.indexOf(pair[1])) {
                    return 0;
                }
            }
            return 1;
        }
        int sum = 0;
        for (int k = 0; k < town.signs.size(); k++) {
            if (!order.contains(k)) {
                order.add(k);
                sum += ordersFrom(order);
                order.remove(order.size() - 1);
            }
        }
        return sum;
    }

    int first() {
        int set = (1 << town.signs.size()) - 1;
        for (int[] pair : told) {
            set &= ~(1 << pair[1]);
        }
        for (int k = 0; k < town.signs.size(); k++) {
            if (reaches(k, k, 0)) {
                return 0;
            }
        }
        return set;
    }

    private boolean reaches(int from, int to, int steps) {
        for (int[] pair : told) {
            if (pair[0] == from && (pair[1] == to || steps < 4 && reaches(pair[1], to, steps + 1))) {
                return true;
            }
        }
        return false;
    }

    int orders() {
        return ordersFrom(new ArrayList<>());
    }

    int feigned() {
        int set = 0;
        Share most = Share.ZERO;
        for (int d = 0; d < diary.size(); d++) {
            Share likely = all(ends(d));
            if (likely.compare(most) > 0) {
                set = 0;
                most = likely;
            }
            set |= likely.compare(most) == 0 && !likely.isZero() ? 1 << d : 0;
        }
        return set == 0 ? NONE : set;
    }

    int spring(int z, int works, int what) {
        if (!in(z, 10000) || !areWorks(works) || !in(what, 2)) {
            return BAD;
        }
        int sleep = 0;
        int stirring = 0;
        for (int d = 1; d <= 60; d++) {
            BigInteger x = BigInteger.valueOf(7919L * z).add(BigInteger.valueOf(6151L * d)).add(BigInteger.ONE);
            int draw = x.modPow(BigInteger.TWO, BigInteger.valueOf(65521)).divide(BigInteger.valueOf(8)).intValue();
            if (Share.of(draw % 4, 4).compare(goesOn(sleep, works)) < 0) {
                sleep++;
            }
            if (sleep == 3) {
                return what == 0 ? d : stirring;
            }
            stirring += sleep == 2 ? 1 : 0;
        }
        return what == 0 ? NONE : stirring;
    }

    int keep() {
        if (kept.size() == 2) {
            return FULL;
        }
        kept.push(new ArrayList<>(diary));
        return kept.size();
    }

    int back() {
        if (kept.isEmpty()) {
            return NO;
        }
        diary = kept.pop();
        return kept.size();
    }

    int count(int what) {
        int people = 0;
        for (int[] house : town.houses) {
            people += house[0];
        }
        int[] counts = {town.signs.size(), town.houses.size(), town.boats.size(), town.works.size(), diary.size(),
            told.size(), kept.size(), text.length(), people};
        return in(what, counts.length) ? counts[what] : BAD;
    }
}
