/** The town on the sleeping whale that ../shared/DOC.md tells of: every call answers a number, none throws. */
public final class WhaleTown {
    public static final int BAD = -1, NO = -2, FULL = -3, NONE = -4;

    private static final String FIRST_TEXT = "a1,2,1;s0,1,2,3;s1,0,2,4;s2,4,3,1;s3,2,2,2;h4,10;h3,25;h6,5;h2,40;b8;b5;b9;w1,6;w0,2;w2,9;l60,5;";
    private static final int DEEP = 0, STIRRING = 2, TURNED = 3, SLEEPS = 3;
    private static final int PLAIN = 0, LATE = 1, FALSE = 2, PAIRED = 3;
    private static final int MOST_KEPT = 2, DAYS_AHEAD = 3, SPRING_DAYS = 60;
    private static final int NO_DAY = -1;
    /** What the share of a SIGN is out of: four for each of the four SIGNS that can hang on one another. */
    private static final int WHOLE_SHARE = 256;

    private final Text text;
    private final ItemReader reader;
    /** What is LAID, and a town to read the text into, so that a FAULT leaves what is LAID alone. */
    private Town town, draft;
    private final Diary book, keptFirst, keptSecond;
    private int keptCount;
    private final Sleeper now, future;
    private final Told told;
    private final Crewing crewing;
    private final Drifting drifting;

    public WhaleTown() {
        text = new Text();
        reader = new ItemReader();
        town = new Town();
        draft = new Town();
        book = new Diary();
        keptFirst = new Diary();
        keptSecond = new Diary();
        keptCount = 0;
        now = new Sleeper();
        future = new Sleeper();
        told = new Told();
        crewing = new Crewing();
        drifting = new Drifting();
        for (int i = 0; i < FIRST_TEXT.length(); i++) {
            text.append(FIRST_TEXT.charAt(i));
        }
        town.readFrom(text, reader);
        text.empty();
    }

    // ---- whales

    public int write(int letter) {
        if (!isWithin(letter, 32, 126)) {
            return BAD;
        }
        if (text.length >= Text.MOST) {
            return FULL;
        }
        text.append(letter);
        return text.length;
    }

    public int wipe() {
        int length = text.length;
        text.empty();
        return length;
    }

    public int fault() {
        return draft.readFrom(text, reader);
    }

    public int lay() {
        if (draft.readFrom(text, reader) != NONE || draft.signCount < 1) {
            return NO;
        }
        Town old = town;
        town = draft;
        draft = old;
        book.days = 0;
        keptCount = 0;
        told.pairs = 0;
        return town.signCount;
    }

    public int sign(int k, int what) {
        if (!isWithin(k, 0, town.signCount - 1) || !isWithin(what, 0, 3)) {
            return BAD;
        }
        return town.signNumber(k, what);
    }

    public int works(int set, int what) {
        if (!isSet(set, town.workCount) || !isWithin(what, 0, 1)) {
            return BAD;
        }
        return what == 0 ? town.noiseOf(set) : town.gainOf(set);
    }

    // ---- the diary

    public int day(int signs, int works) {
        if (!isSet(signs, town.signCount) || !isSet(works, town.workCount)) {
            return BAD;
        }
        if (book.days >= Diary.MOST) {
            return FULL;
        }
        book.append(signs, works);
        return book.days;
    }

    public int diary(int d, int what) {
        if (!isWithin(d, 0, book.days - 1) || !isWithin(what, 0, 1)) {
            return BAD;
        }
        return what == 0 ? book.signsOn(d) : book.worksOn(d);
    }

    public int undo() {
        if (book.days < 1) {
            return NO;
        }
        book.days--;
        return book.days;
    }

    // ---- how it sleeps

    public long belief(int sleep, int part) {
        if (!isWithin(sleep, DEEP, STIRRING) || !isWithin(part, 0, 1)) {
            return BAD;
        }
        if (!diaryCanBe()) {
            return NONE;
        }
        return inLowestTerms(now.waysTo(sleep), now.total(), part);
    }

    public long near(int n, int works, int part) {
        if (!isWithin(n, 1, DAYS_AHEAD) || !isSet(works, town.workCount) || !isWithin(part, 0, 1)) {
            return BAD;
        }
        if (!diaryCanBe()) {
            return NONE;
        }
        lookAhead(n, works);
        return inLowestTerms(future.turned, future.all(), part);
    }

    public long sight(int k, int works, int part) {
        if (!isWithin(k, 0, town.signCount - 1) || !isSet(works, town.workCount) || !isWithin(part, 0, 1)) {
            return BAD;
        }
        if (!diaryCanBe() || !nextDayCanBe(works)) {
            return NONE;
        }
        return inLowestTerms(future.sightings(town, k), future.total() * WHOLE_SHARE, part);
    }

    public int tells(int works) {
        if (!isSet(works, town.workCount)) {
            return BAD;
        }
        if (!diaryCanBe() || !nextDayCanBe(works)) {
            return NONE;
        }
        int best = 0;
        long least = awayFromHalf(0);
        for (int k = 1; k < town.signCount; k++) {
            long away = awayFromHalf(k);
            if (away < least) {
                least = away;
                best = k;
            }
        }
        return best;
    }

    public long board(int works, int what) {
        if (!isSet(works, town.workCount) || !isWithin(what, 0, 2)) {
            return BAD;
        }
        if (!diaryCanBe()) {
            return NONE;
        }
        int best = 0;
        long least = costOfBoarding(0, works);
        for (int k = 1; k <= DAYS_AHEAD; k++) {
            long cost = costOfBoarding(k, works);
            if (cost < least) {
                least = cost;
                best = k;
            }
        }
        return what == 0 ? best : inLowestTerms(least, now.total() * fourTo(DAYS_AHEAD), what - 1);
    }

    public int quiet(int x, int what) {
        if (!isWithin(x, 0, 100) || !isWithin(what, 0, 1)) {
            return BAD;
        }
        if (!diaryCanBe()) {
            return NONE;
        }
        int best = NONE;
        int most = NONE;
        for (int set = 0; set < setsOf(town.workCount); set++) {
            int gain = town.gainOf(set);
            if (gain > most && isQuiet(set, x)) {
                most = gain;
                best = set;
            }
        }
        return what == 0 ? best : most;
    }

    // ---- boats

    public int saved(int t) {
        if (!isWithin(t, 0, 99)) {
            return BAD;
        }
        return Math.min(town.peopleWithin(t), town.roomInAll());
    }

    public int crews(int h) {
        if (!isWithin(h, -1, town.houseCount - 1)) {
            return BAD;
        }
        if (town.houseCount < 1 || !crewing.find(town)) {
            return NONE;
        }
        return h < 0 ? crewing.boats : crewing.boatOf(h);
    }

    public int drift(int m, int n, int e, int f, int part) {
        boolean sides = isWithin(e, 0, 4) && isWithin(f, 0, 4) && isWithin(e + f, 0, 4);
        if (!isWithin(m, 0, 12) || !isWithin(n, 0, 6) || !sides || !isWithin(part, 0, 1)) {
            return BAD;
        }
        drifting.pass(n, e, f);
        return (int) inLowestTerms(drifting.waysTo(m), fourTo(n), part);
    }

    // ---- that spring

    public int ahead(int a, int b) {
        if (!isWithin(a, 0, town.signCount - 1) || !isWithin(b, 0, town.signCount - 1) || a == b) {
            return BAD;
        }
        if (told.pairs >= Told.MOST) {
            return FULL;
        }
        told.append(a, b);
        return told.pairs;
    }

    public int forget() {
        int pairs = told.pairs;
        told.pairs = 0;
        return pairs;
    }

    public int first() {
        // What goes round leaves no order at all.
        return told.ordersOf(town.signCount) == 0 ? 0 : told.withNoneAhead(town.signCount);
    }

    public int orders() {
        return told.ordersOf(town.signCount);
    }

    public int feigned() {
        long most = 0;
        int days = 0;
        for (int d = 0; d < book.days; d++) {
            // Each time the SIGNS of one DAY are left out, so all of these are out of the same number.
            now.passDiary(town, book, d);
            long likely = now.total();
            if (likely > most) {
                most = likely;
                days = 0;
            }
            if (likely == most) {
                days |= 1 << d;
            }
        }
        return most == 0 ? NONE : days;
    }

    public int spring(int z, int works, int what) {
        if (!isWithin(z, 0, 9999) || !isSet(works, town.workCount) || !isWithin(what, 0, 1)) {
            return BAD;
        }
        int noise = town.noiseOf(works);
        int sleep = DEEP;
        int stirring = 0;
        int turnedOn = NONE;
        for (int d = 1; d <= SPRING_DAYS && sleep < TURNED; d++) {
            if (draw(z, d) % 4 < town.chance(sleep, noise)) {
                sleep++;
            }
            if (sleep == STIRRING) {
                stirring++;
            }
            if (sleep == TURNED) {
                turnedOn = d;
            }
        }
        return what == 0 ? turnedOn : stirring;
    }

    // ---- kept

    public int keep() {
        if (keptCount >= MOST_KEPT) {
            return FULL;
        }
        Diary free = keptCount == 0 ? keptFirst : keptSecond;
        free.takeFrom(book);
        keptCount++;
        return keptCount;
    }

    public int back() {
        if (keptCount < 1) {
            return NO;
        }
        Diary last = keptCount == 1 ? keptFirst : keptSecond;
        book.takeFrom(last);
        keptCount--;
        return keptCount;
    }

    public int count(int what) {
        switch (what) {
            case 0: return town.signCount;
            case 1: return town.houseCount;
            case 2: return town.boatCount;
            case 3: return town.workCount;
            case 4: return book.days;
            case 5: return told.pairs;
            case 6: return keptCount;
            case 7: return text.length;
            case 8: return town.people();
            default: return BAD;
        }
    }

    // ---- what the calls share

    private static boolean isWithin(int number, int low, int high) {
        return number >= low && number <= high;
    }

    /** How many sets there are of so many things (five at most). */
    private static int setsOf(int things) {
        return 1 << things;
    }

    private static boolean isSet(int set, int things) {
        return isWithin(set, 0, setsOf(things) - 1);
    }

    private static boolean holds(int set, int thing) {
        return (set >> thing & 1) == 1;
    }

    private static long fourTo(int power) {
        return 1L << 2 * power;
    }

    private static long inLowestTerms(long above, long below, int part) {
        long divisor = commonDivisor(above, below);
        if (divisor == 0) {
            return 0;
        }
        return (part == 0 ? above : below) / divisor;
    }

    private static long commonDivisor(long above, long below) {
        long a = above;
        long b = below;
        // Two longs need fewer than a hundred steps.
        for (int i = 0; i < 100 && b != 0; i++) {
            long rest = a % b;
            a = b;
            b = rest;
        }
        return a;
    }

    private static int draw(int z, int d) {
        long x = 7919L * z + 6151L * d + 1;
        return (int) (x * x % 65521 / 8);
    }

    /** Brings the BELIEF into now; false if THE DIARY could not be. */
    private boolean diaryCanBe() {
        now.passDiary(town, book, NO_DAY);
        return now.total() > 0;
    }

    /** Brings the BELIEF, as it is in now, n DAYS on into future. */
    private void lookAhead(int n, int works) {
        int noise = town.noiseOf(works);
        future.takeFrom(now);
        for (int i = 0; i < n; i++) {
            future.goOn(town, noise);
        }
    }

    /** Brings the BELIEF a DAY on into future; false if it surely TURNS. */
    private boolean nextDayCanBe(int works) {
        lookAhead(1, works);
        return future.total() > 0;
    }

    /** How far SIGHT is from one half, out of twice what SIGHT is out of. */
    private long awayFromHalf(int k) {
        return Math.abs(2 * future.sightings(town, k) - future.total() * WHOLE_SHARE);
    }

    /** Out of the BELIEF's total by four for each of the DAYS ahead: at most 99 and 27 by 2 to the 56th, a long. */
    private long costOfBoarding(int k, int works) {
        lookAhead(k, works);
        long turn = town.turnCost * future.turned;
        long boats = (long) town.boatDayCost * (DAYS_AHEAD - k) * future.all();
        return (turn + boats) * fourTo(DAYS_AHEAD - k);
    }

    private boolean isQuiet(int set, int x) {
        lookAhead(DAYS_AHEAD, set);
        return future.turned * 100 <= future.all() * x;
    }

    /** Rows are read and set here alone, so that no index is used before it is looked at. */
    private static final class Rows {
        static int at(int[] row, int place) {
            return row != null && place >= 0 && place < row.length ? row[place] : 0;
        }

        static void put(int[] row, int place, int number) {
            if (row != null && place >= 0 && place < row.length) {
                row[place] = number;
            }
        }

        static long longAt(long[] row, int place) {
            return row != null && place >= 0 && place < row.length ? row[place] : 0;
        }

        static void putLong(long[] row, int place, long number) {
            if (row != null && place >= 0 && place < row.length) {
                row[place] = number;
            }
        }
    }

    private static final class Text {
        static final int MOST = 200;

        private final int[] letters = new int[MOST];
        int length;

        void append(int letter) {
            if (length < MOST) {
                Rows.put(letters, length, letter);
                length++;
            }
        }

        void empty() {
            length = 0;
        }

        /** 0, which is no letter, behind the last one. */
        int letterAt(int place) {
            return place < length ? Rows.at(letters, place) : 0;
        }
    }

    /** Reads one ITEM at a time. */
    private static final class ItemReader {
        private static final int MOST_NUMBERS = 4;

        private final int[] numbers = new int[MOST_NUMBERS];
        private int numberCount;
        int letter;
        /** The place behind what was read. */
        int end;

        /** False if no ITEM such as is told begins at this place. */
        boolean readAt(Text text, int place) {
            letter = text.letterAt(place);
            end = place + 1;
            numberCount = 0;
            boolean more = true;
            for (int i = 0; i < MOST_NUMBERS && more; i++) {
                if (!readNumber(text)) {
                    return false;
                }
                int behind = text.letterAt(end);
                end++;
                if (behind != ',' && behind != ';') {
                    return false;
                }
                more = behind == ',';
            }
            return !more && isTold();
        }

        int numberAt(int place) {
            return Rows.at(numbers, place);
        }

        private boolean readNumber(Text text) {
            int ones = figure(text.letterAt(end));
            if (ones < 0) {
                return false;
            }
            end++;
            int number = ones;
            int second = figure(text.letterAt(end));
            if (second >= 0) {
                end++;
                number = 10 * ones + second;
            }
            Rows.put(numbers, numberCount, number);
            numberCount++;
            return true;
        }

        private static int figure(int letter) {
            return isWithin(letter, '0', '9') ? letter - '0' : -1;
        }

        private boolean isTold() {
            switch (letter) {
                case 'a': return numberCount == 3 && reaches(0, 0, 4) && reaches(1, 0, 4) && reaches(2, 0, 4);
                case 's': return numberCount == 4 && reaches(0, PLAIN, PAIRED)
                        && reaches(1, 0, 4) && reaches(2, 0, 4) && reaches(3, 0, 4);
                case 'h': return numberCount == 2 && reaches(0, 1, 9) && reaches(1, 0, Town.MOST_MINUTES);
                case 'b': return numberCount == 1 && reaches(0, 1, 30);
                case 'w': return numberCount == 2 && reaches(0, 0, 4) && reaches(1, 0, 20);
                case 'l': return numberCount == 2 && reaches(0, 0, 99) && reaches(1, 0, 9);
                default: return false;
            }
        }

        private boolean reaches(int place, int low, int high) {
            return isWithin(Rows.at(numbers, place), low, high);
        }
    }

    /** What a TEXT tells. */
    private static final class Town {
        private static final int MOST_SIGNS = 4, MOST_HOUSES = 6, MOST_BOATS = 4, MOST_WORKS = 5;
        private static final int SIGN_NUMBERS = 4, MOST_MINUTES = 60;

        private final int[] lighter = new int[SLEEPS];
        private final int[] signNumbers = new int[MOST_SIGNS * SIGN_NUMBERS];
        private final int[] housePeople = new int[MOST_HOUSES];
        private final int[] houseMinutes = new int[MOST_HOUSES];
        private final int[] boatRoom = new int[MOST_BOATS];
        private final int[] workNoise = new int[MOST_WORKS];
        private final int[] workGain = new int[MOST_WORKS];
        int signCount, houseCount, boatCount, workCount;
        int turnCost, boatDayCost;

        /** The FAULT, behind which nothing is read, or NONE. */
        int readFrom(Text text, ItemReader reader) {
            startOver();
            int place = 0;
            for (int i = 0; i < Text.MOST && place < text.length; i++) {
                if (!reader.readAt(text, place) || !take(reader)) {
                    return place;
                }
                place = reader.end;
            }
            return NONE;
        }

        private void startOver() {
            for (int sleep = DEEP; sleep < SLEEPS; sleep++) {
                Rows.put(lighter, sleep, 1);
            }
            turnCost = 60;
            boatDayCost = 5;
            signCount = 0;
            houseCount = 0;
            boatCount = 0;
            workCount = 0;
        }

        /** False if there are as many such already as there can be. */
        private boolean take(ItemReader item) {
            switch (item.letter) {
                case 'a': return takeSleeps(item);
                case 's': return takeSign(item);
                case 'h': return takeHouse(item);
                case 'b': return takeBoat(item);
                case 'w': return takeWorks(item);
                default: return takeCosts(item);
            }
        }

        private boolean takeSleeps(ItemReader item) {
            for (int sleep = DEEP; sleep < SLEEPS; sleep++) {
                Rows.put(lighter, sleep, item.numberAt(sleep));
            }
            return true;
        }

        private boolean takeSign(ItemReader item) {
            if (signCount >= MOST_SIGNS) {
                return false;
            }
            for (int i = 0; i < SIGN_NUMBERS; i++) {
                Rows.put(signNumbers, signCount * SIGN_NUMBERS + i, item.numberAt(i));
            }
            signCount++;
            return true;
        }

        private boolean takeHouse(ItemReader item) {
            if (houseCount >= MOST_HOUSES) {
                return false;
            }
            Rows.put(housePeople, houseCount, item.numberAt(0));
            Rows.put(houseMinutes, houseCount, item.numberAt(1));
            houseCount++;
            return true;
        }

        private boolean takeBoat(ItemReader item) {
            if (boatCount >= MOST_BOATS) {
                return false;
            }
            Rows.put(boatRoom, boatCount, item.numberAt(0));
            boatCount++;
            return true;
        }

        private boolean takeWorks(ItemReader item) {
            if (workCount >= MOST_WORKS) {
                return false;
            }
            Rows.put(workNoise, workCount, item.numberAt(0));
            Rows.put(workGain, workCount, item.numberAt(1));
            workCount++;
            return true;
        }

        private boolean takeCosts(ItemReader item) {
            turnCost = item.numberAt(0);
            boatDayCost = item.numberAt(1);
            return true;
        }

        int signNumber(int k, int what) {
            return Rows.at(signNumbers, k * SIGN_NUMBERS + what);
        }

        int noiseOf(int set) {
            return sumOf(workNoise, workCount, set);
        }

        int gainOf(int set) {
            return sumOf(workGain, workCount, set);
        }

        private static int sumOf(int[] row, int things, int set) {
            int sum = 0;
            for (int i = 0; i < things; i++) {
                if (holds(set, i)) {
                    sum += Rows.at(row, i);
                }
            }
            return sum;
        }

        int peopleOf(int house) {
            return Rows.at(housePeople, house);
        }

        int people() {
            return peopleWithin(MOST_MINUTES);
        }

        int peopleWithin(int minutes) {
            int sum = 0;
            for (int h = 0; h < houseCount; h++) {
                if (Rows.at(houseMinutes, h) <= minutes) {
                    sum += peopleOf(h);
                }
            }
            return sum;
        }

        int roomOf(int boat) {
            return Rows.at(boatRoom, boat);
        }

        int roomInAll() {
            int sum = 0;
            for (int b = 0; b < boatCount; b++) {
                sum += roomOf(b);
            }
            return sum;
        }

        /** Of four, that it goes on from this SLEEP. */
        int chance(int sleep, int noise) {
            return Math.min(4, Rows.at(lighter, sleep) + noise);
        }

        /** Of four, that the SIGN is seen; of a PAIRED one, if that of the number ahead is. */
        private int ownChance(int k, int sleepAhead, int sleep) {
            int place = k * SIGN_NUMBERS;
            int kind = Rows.at(signNumbers, place);
            int seen = Rows.at(signNumbers, place + 1 + (kind == LATE ? sleepAhead : sleep));
            return kind == FALSE ? 4 - seen : seen;
        }

        private boolean hangsOnOther(int k) {
            return k > 0 && signNumber(k, 0) == PAIRED;
        }

        /** In how many of four for each SIGN just these are seen. */
        long waysToSee(int signs, int sleepAhead, int sleep) {
            long ways = 1;
            for (int k = 0; k < signCount; k++) {
                boolean never = hangsOnOther(k) && !holds(signs, k - 1);
                int chance = never ? 0 : ownChance(k, sleepAhead, sleep);
                ways *= holds(signs, k) ? chance : 4 - chance;
            }
            return ways;
        }

        /** Of WHOLE_SHARE, that the SIGN is seen, whatever else is. */
        int shareOf(int k, int sleepAhead, int sleep) {
            int share = WHOLE_SHARE;
            for (int i = 0; i <= k; i++) {
                int outOf = hangsOnOther(i) ? share : WHOLE_SHARE;
                share = outOf / 4 * ownChance(i, sleepAhead, sleep);
            }
            return share;
        }
    }

    private static final class Diary {
        static final int MOST = 5;

        private final int[] signs = new int[MOST];
        private final int[] works = new int[MOST];
        int days;

        void append(int seen, int going) {
            if (days < MOST) {
                Rows.put(signs, days, seen);
                Rows.put(works, days, going);
                days++;
            }
        }

        int signsOn(int d) {
            return Rows.at(signs, d);
        }

        int worksOn(int d) {
            return Rows.at(works, d);
        }

        void takeFrom(Diary other) {
            days = 0;
            for (int d = 0; d < other.days; d++) {
                append(other.signsOn(d), other.worksOn(d));
            }
        }
    }

    /**
     * In how many ways it came to be in each SLEEP, by the one that it was in ahead of the DAY, as LATE SIGNS want it:
     * the same one or the one before. A DAY of THE DIARY makes at most 1024 ways of one (four by how it goes on, four
     * by each SIGN), so five make at most 2 to the 50th, and what is reckoned from these stays within a long.
     */
    private static final class Sleeper {
        private final long[] stayed = new long[SLEEPS];
        private final long[] came = new long[SLEEPS];
        long turned;

        long waysTo(int sleep) {
            return Rows.longAt(stayed, sleep) + Rows.longAt(came, sleep);
        }

        /** Without those in which it TURNED. */
        long total() {
            long sum = 0;
            for (int sleep = DEEP; sleep < SLEEPS; sleep++) {
                sum += waysTo(sleep);
            }
            return sum;
        }

        long all() {
            return total() + turned;
        }

        void takeFrom(Sleeper other) {
            for (int sleep = DEEP; sleep < SLEEPS; sleep++) {
                Rows.putLong(stayed, sleep, other.waysTo(sleep));
                Rows.putLong(came, sleep, 0);
            }
            turned = other.turned;
        }

        /** From the first DAY of THE DIARY to the last one; the SIGNS of one DAY can be left out. */
        void passDiary(Town town, Diary diary, int leftOut) {
            for (int sleep = DEEP; sleep < SLEEPS; sleep++) {
                Rows.putLong(stayed, sleep, sleep == DEEP ? 1 : 0);
                Rows.putLong(came, sleep, 0);
            }
            for (int d = 0; d < diary.days; d++) {
                goOn(town, town.noiseOf(diary.worksOn(d)));
                if (d != leftOut) {
                    lookAt(town, diary.signsOn(d));
                }
            }
            // THE DIARY tells that it did not.
            turned = 0;
        }

        void goOn(Town town, int noise) {
            turned *= 4;
            // The lightest first: what comes to a SLEEP must not go on from it on the same DAY.
            for (int sleep = STIRRING; sleep >= DEEP; sleep--) {
                int chance = town.chance(sleep, noise);
                long ways = waysTo(sleep);
                Rows.putLong(stayed, sleep, ways * (4 - chance));
                if (sleep == STIRRING) {
                    turned += ways * chance;
                } else {
                    Rows.putLong(came, sleep + 1, ways * chance);
                }
            }
        }

        private void lookAt(Town town, int signs) {
            for (int sleep = DEEP; sleep < SLEEPS; sleep++) {
                int before = Math.max(DEEP, sleep - 1);
                Rows.putLong(stayed, sleep, Rows.longAt(stayed, sleep) * town.waysToSee(signs, sleep, sleep));
                Rows.putLong(came, sleep, Rows.longAt(came, sleep) * town.waysToSee(signs, before, sleep));
            }
        }

        /** Out of the total by WHOLE_SHARE: in how many ways the SIGN is seen on the DAY that it has gone on. */
        long sightings(Town town, int k) {
            long sum = 0;
            for (int sleep = DEEP; sleep < SLEEPS; sleep++) {
                int before = Math.max(DEEP, sleep - 1);
                sum += Rows.longAt(stayed, sleep) * town.shareOf(k, sleep, sleep);
                sum += Rows.longAt(came, sleep) * town.shareOf(k, before, sleep);
            }
            return sum;
        }
    }

    private static final class Told {
        static final int MOST = 8;

        private final int[] former = new int[MOST];
        private final int[] latter = new int[MOST];
        /** By sets of SIGNS, in how many orders these can have come first. */
        private final int[] orderings = new int[1 << Town.MOST_SIGNS];
        int pairs;

        void append(int a, int b) {
            if (pairs < MOST) {
                Rows.put(former, pairs, a);
                Rows.put(latter, pairs, b);
                pairs++;
            }
        }

        private int toldAheadOf(int sign) {
            int set = 0;
            for (int i = 0; i < pairs; i++) {
                if (Rows.at(latter, i) == sign) {
                    set |= 1 << Rows.at(former, i);
                }
            }
            return set;
        }

        int withNoneAhead(int signs) {
            int set = 0;
            for (int k = 0; k < signs; k++) {
                if (toldAheadOf(k) == 0) {
                    set |= 1 << k;
                }
            }
            return set;
        }

        int ordersOf(int signs) {
            for (int set = 0; set < setsOf(signs); set++) {
                Rows.put(orderings, set, set == 0 ? 1 : 0);
            }
            for (int set = 0; set < setsOf(signs); set++) {
                for (int k = 0; k < signs; k++) {
                    boolean mayFollow = !holds(set, k) && (toldAheadOf(k) & ~set) == 0;
                    if (mayFollow) {
                        Rows.put(orderings, set | 1 << k, Rows.at(orderings, set | 1 << k) + Rows.at(orderings, set));
                    }
                }
            }
            return Rows.at(orderings, setsOf(signs) - 1);
        }
    }

    /** Sends HOUSES, each whole, to BOATS. */
    private static final class Crewing {
        private final int[] boatOfHouse = new int[Town.MOST_HOUSES];
        private final int[] roomLeft = new int[Town.MOST_BOATS];
        int boats;

        int boatOf(int house) {
            return Rows.at(boatOfHouse, house);
        }

        boolean find(Town town) {
            for (int size = 1; size <= town.boatCount; size++) {
                for (int set = 1; set < setsOf(town.boatCount); set++) {
                    if (Integer.bitCount(set) == size && findWith(town, set)) {
                        return true;
                    }
                }
            }
            return false;
        }

        private boolean findWith(Town town, int set) {
            boats = set;
            for (int b = 0; b < town.boatCount; b++) {
                Rows.put(roomLeft, b, town.roomOf(b));
            }
            return sendFrom(this, town, 0);
        }

        /** Calls itself for the next HOUSE, so no deeper than there can be HOUSES. */
        private static boolean sendFrom(Crewing crewing, Town town, int house) {
            if (house >= town.houseCount || house >= Town.MOST_HOUSES) {
                return true;
            }
            int people = town.peopleOf(house);
            for (int b = 0; b < town.boatCount; b++) {
                int room = Rows.at(crewing.roomLeft, b);
                if (holds(crewing.boats, b) && room >= people) {
                    Rows.put(crewing.boatOfHouse, house, b);
                    Rows.put(crewing.roomLeft, b, room - people);
                    if (sendFrom(crewing, town, house + 1)) {
                        return true;
                    }
                    Rows.put(crewing.roomLeft, b, room);
                }
            }
            return false;
        }
    }

    /** In how many ways (four a night) it came to each place, from six miles west to six miles east. */
    private static final class Drifting {
        private static final int PLACES = 13, HERE = 6;

        private final int[] ways = new int[PLACES];
        private final int[] waysLater = new int[PLACES];

        int waysTo(int place) {
            return Rows.at(ways, place);
        }

        void pass(int nights, int east, int west) {
            for (int m = 0; m < PLACES; m++) {
                Rows.put(ways, m, m == HERE ? 1 : 0);
            }
            for (int i = 0; i < nights; i++) {
                passNight(east, west);
            }
        }

        private void passNight(int east, int west) {
            for (int m = 0; m < PLACES; m++) {
                int stayed = waysTo(m) * (4 - east - west);
                Rows.put(waysLater, m, stayed + waysTo(m - 1) * east + waysTo(m + 1) * west);
            }
            for (int m = 0; m < PLACES; m++) {
                Rows.put(ways, m, Rows.at(waysLater, m));
            }
        }
    }
}
