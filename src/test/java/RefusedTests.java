import java.util.ArrayList;
import java.util.List;
import java.util.function.Supplier;
import java.util.function.ToLongFunction;

/**
 * "Of several the first in this order; nothing changes then": each call that is refused, in towns of all kinds, by what
 * it answers and by a long look at all that can be seen, held against a town that was not asked. Then the calls that
 * only ask.
 */
public final class RefusedTests extends Due {
    /** 199 letters, so that one more, which is a fault, makes it full. */
    private static final String FULL_TEXT = "a3,2,1;l1,1;l1,1;l77,8;" + "h9,60;".repeat(3) + "h1,0;h2,5;h3,9;"
            + "s0,1,2,3;s1,3,2,1;s2,2,2,3;s3,2,3,4;" + "b15;b5;b9;b9;" + "w1,9;w0,2;w3,20;w2,5;w4,11;" + "l1,1;".repeat(11) + "l02,02;l9,1;";

    /** A town, and how many of each thing it has. */
    private record Town(String name, int signs, int houses, int works, int days, Supplier<WhaleTown> make) {
    }

    private record Call(String name, long due, ToLongFunction<WhaleTown> call) {
    }

    // ---- the towns

    private static WhaleTown halfTown() {
        WhaleTown x = laid("a2,1,2;s0,1,3,2;s3,2,1,3;h5,20;h4,9;b6;b4;w1,5;w2,8;l40,3;");
        x.day(1, 1);
        x.keep();
        x.day(0, 2);
        x.ahead(0, 1);
        x.write('b');
        return x;
    }

    private static WhaleTown fullTown() {
        WhaleTown x = laid(FULL_TEXT);
        due("letters", x.count(7), 199);
        due("write of the last letter", x.write(';'), 200);
        for (int d = 0; d < 5; d++) {
            x.day(new int[] {0, 1, 5, 2, 12}[d], new int[] {0, 1, 2, 0, 3}[d]);
        }
        due("keep()", x.keep(), 1);
        due("undo()", x.undo(), 4);
        due("day(13, 1)", x.day(13, 1), 5);
        due("keep()", x.keep(), 2);
        int[] latter = {1, 2, 3, 3, 3, 1, 2, 3};
        for (int i = 0; i < 8; i++) {
            due("ahead", x.ahead(0, latter[i]), i + 1);
        }
        return x;
    }

    private static WhaleTown townThatCouldNotBe() {
        WhaleTown x = laid("a1,2,1;s0,4,4,4;s0,2,2,2;h3,3;b2;w1,1;");
        x.day(1, 0);
        x.day(2, 1);
        x.day(2, 0);
        x.ahead(0, 1);
        x.ahead(1, 0);
        return x;
    }

    private static WhaleTown leastTown() {
        WhaleTown x = laid(DULL);
        x.wipe();
        write(x, "b1;h1,1;");
        return x;
    }

    private static WhaleTown townThatSurelyTurns() {
        WhaleTown x = laid("a4,4,4;s1,1,2,3;w0,4;h9,0;");
        x.day(0, 1);
        x.day(1, 0);
        x.keep();
        return x;
    }

    private static List<Town> towns() {
        List<Town> towns = new ArrayList<>();
        towns.add(new Town("new", 4, 4, 3, 0, WhaleTown::new));
        towns.add(new Town("half", 2, 2, 2, 2, RefusedTests::halfTown));
        towns.add(new Town("full", 4, 6, 5, 5, RefusedTests::fullTown));
        towns.add(new Town("could not be", 2, 1, 1, 3, RefusedTests::townThatCouldNotBe));
        towns.add(new Town("least", 1, 0, 0, 0, RefusedTests::leastTown));
        towns.add(new Town("surely turns", 1, 1, 1, 2, RefusedTests::townThatSurelyTurns));
        return towns;
    }

    // ---- the look

    private static void lookAtTown(WhaleTown x, List<Long> seen) {
        for (int what = 0; what <= 8; what++) {
            seen.add((long) x.count(what));
        }
        for (int i = 0; i < 16; i++) {
            seen.add((long) x.sign(i / 4, i % 4));
        }
        for (int set = 0; set < 5; set++) {
            seen.add((long) x.works(1 << set, 0));
            seen.add((long) x.works(1 << set, 1));
        }
        for (int h = -1; h < 6; h++) {
            seen.add((long) x.crews(h));
        }
        int[] minutes = {0, 5, 20, 60};
        for (int t : minutes) {
            seen.add((long) x.saved(t));
        }
    }

    private static void lookAtDiary(WhaleTown x, List<Long> seen) {
        for (int d = 0; d < 5; d++) {
            seen.add((long) x.diary(d, 0));
            seen.add((long) x.diary(d, 1));
        }
        seen.add((long) x.feigned());
        seen.add(x.belief(0, 0));
        seen.add(x.belief(0, 1));
    }

    private static void lookAtSleep(WhaleTown x, List<Long> seen) {
        for (int i = 0; i < 4; i++) {
            seen.add(x.belief(1 + i / 2, i % 2));
            seen.add(x.sight(i, 0, 0));
            seen.add(x.sight(i, 1, 1));
        }
        for (int n = 1; n <= 3; n++) {
            seen.add(x.near(n, 0, 0));
            seen.add(x.near(n, 1, 1));
            seen.add(x.board(0, n - 1));
        }
        int[] percents = {0, 30, 100};
        for (int percent : percents) {
            seen.add((long) x.quiet(percent, 0));
        }
        seen.add((long) x.tells(0));
        seen.add((long) x.spring(1868, 0, 0));
        seen.add((long) x.spring(1868, 0, 1));
        seen.add((long) x.first());
        seen.add((long) x.orders());
        seen.add((long) x.drift(5, 4, 1, 2, 0));
    }

    /** What is kept, undone, told, and THE TEXT are seen as they go. */
    private static long[] look(WhaleTown x) {
        List<Long> seen = new ArrayList<>();
        lookAtTown(x, seen);
        lookAtDiary(x, seen);
        lookAtSleep(x, seen);
        for (int i = 0; i < 2; i++) {
            seen.add((long) x.back());
            lookAtDiary(x, seen);
        }
        for (int i = 0; i < 6; i++) {
            seen.add((long) x.undo());
        }
        seen.add((long) x.forget());
        seen.add((long) x.orders());
        seen.add((long) x.fault());
        seen.add((long) x.lay());
        lookAtTown(x, seen);
        seen.add((long) x.wipe());
        seen.add((long) x.fault());
        seen.add((long) x.count(7));
        return seen.stream().mapToLong(Long::longValue).toArray();
    }

    private static void dueNothingChanges(Town town, long[] asItWas, Call call) {
        WhaleTown x = town.make.get();
        String name = town.name + ": " + call.name;
        due(name, call.call.applyAsLong(x), call.due);
        due(name + ", again", call.call.applyAsLong(x), call.due);
        int mismatch = java.util.Arrays.mismatch(look(x), asItWas);
        due(name + ", the first place in the look that is not as it was", mismatch, -1);
    }

    // ---- BAD

    private static int[] outside(int low, int high) {
        return new int[] {low - 1, high + 1, Integer.MIN_VALUE, Integer.MAX_VALUE};
    }

    private static void addWhales(List<Call> calls, Town town) {
        for (int n : outside(32, 126)) {
            calls.add(new Call("write " + n, BAD, x -> x.write(n)));
        }
        for (int n : outside(0, town.signs - 1)) {
            calls.add(new Call("sign k " + n, BAD, x -> x.sign(n, 0)));
        }
        for (int n : outside(0, 3)) {
            calls.add(new Call("sign what " + n, BAD, x -> x.sign(0, n)));
        }
        for (int n : outside(0, (1 << town.works) - 1)) {
            calls.add(new Call("works set " + n, BAD, x -> x.works(n, 0)));
        }
        for (int n : outside(0, 1)) {
            calls.add(new Call("works what " + n, BAD, x -> x.works(0, n)));
        }
        for (int n : outside(0, 8)) {
            calls.add(new Call("count " + n, BAD, x -> x.count(n)));
        }
    }

    private static void addDiary(List<Call> calls, Town town) {
        for (int n : outside(0, (1 << town.signs) - 1)) {
            calls.add(new Call("day signs " + n, BAD, x -> x.day(n, 0)));
        }
        for (int n : outside(0, (1 << town.works) - 1)) {
            calls.add(new Call("day works " + n, BAD, x -> x.day(0, n)));
            calls.add(new Call("day both " + n, BAD, x -> x.day(-1, n)));
        }
        for (int n : outside(0, town.days - 1)) {
            calls.add(new Call("diary d " + n, BAD, x -> x.diary(n, 0)));
        }
        for (int n : outside(0, 1)) {
            calls.add(new Call("diary what " + n, BAD, x -> x.diary(0, n)));
        }
    }

    private static void addSleep(List<Call> calls, Town town) {
        for (int n : outside(0, 2)) {
            calls.add(new Call("belief sleep " + n, BAD, x -> x.belief(n, 0)));
            calls.add(new Call("board what " + n, BAD, x -> x.board(0, n)));
        }
        for (int n : outside(0, 1)) {
            calls.add(new Call("belief part " + n, BAD, x -> x.belief(0, n)));
            calls.add(new Call("near part " + n, BAD, x -> x.near(1, 0, n)));
            calls.add(new Call("sight part " + n, BAD, x -> x.sight(0, 0, n)));
            calls.add(new Call("quiet what " + n, BAD, x -> x.quiet(0, n)));
        }
        for (int n : outside(1, 3)) {
            calls.add(new Call("near n " + n, BAD, x -> x.near(n, 0, 0)));
        }
        for (int n : outside(0, town.signs - 1)) {
            calls.add(new Call("sight k " + n, BAD, x -> x.sight(n, 0, 0)));
        }
        for (int n : outside(0, (1 << town.works) - 1)) {
            calls.add(new Call("near works " + n, BAD, x -> x.near(1, n, 0)));
            calls.add(new Call("sight works " + n, BAD, x -> x.sight(0, n, 0)));
            calls.add(new Call("tells works " + n, BAD, x -> x.tells(n)));
            calls.add(new Call("board works " + n, BAD, x -> x.board(n, 0)));
        }
        for (int n : outside(0, 100)) {
            calls.add(new Call("quiet x " + n, BAD, x -> x.quiet(n, 0)));
        }
    }

    private static void addBoatsAndSpring(List<Call> calls, Town town) {
        for (int n : outside(0, 99)) {
            calls.add(new Call("saved " + n, BAD, x -> x.saved(n)));
        }
        for (int n : outside(-1, town.houses - 1)) {
            calls.add(new Call("crews " + n, BAD, x -> x.crews(n)));
        }
        for (int n : outside(0, 12)) {
            calls.add(new Call("drift m " + n, BAD, x -> x.drift(n, 1, 1, 1, 0)));
        }
        for (int n : outside(0, 6)) {
            calls.add(new Call("drift n " + n, BAD, x -> x.drift(6, n, 1, 1, 0)));
        }
        for (int n : outside(0, 4)) {
            calls.add(new Call("drift e " + n, BAD, x -> x.drift(6, 1, n, 0, 0)));
            calls.add(new Call("drift f " + n, BAD, x -> x.drift(6, 1, 0, n, 0)));
        }
        calls.add(new Call("drift e and f", BAD, x -> x.drift(6, 1, 3, 2, 0)));
        for (int n : outside(0, 1)) {
            calls.add(new Call("drift part " + n, BAD, x -> x.drift(6, 1, 1, 1, n)));
            calls.add(new Call("spring what " + n, BAD, x -> x.spring(0, 0, n)));
        }
        for (int n : outside(0, town.signs - 1)) {
            calls.add(new Call("ahead a " + n, BAD, x -> x.ahead(n, 0)));
            calls.add(new Call("ahead b " + n, BAD, x -> x.ahead(0, n)));
        }
        calls.add(new Call("ahead alike", BAD, x -> x.ahead(0, 0)));
        for (int n : outside(0, 9999)) {
            calls.add(new Call("spring z " + n, BAD, x -> x.spring(n, 0, 0)));
        }
        for (int n : outside(0, (1 << town.works) - 1)) {
            calls.add(new Call("spring works " + n, BAD, x -> x.spring(0, n, 0)));
        }
    }

    // ---- NO, NONE, FULL

    private static void addOthers(List<Call> calls, String town) {
        switch (town) {
            case "new":
                addNotAsThingsStand(calls);
                calls.add(new Call("lay, no text", NO, WhaleTown::lay));
                calls.add(new Call("fault", NONE, WhaleTown::fault));
                calls.add(new Call("feigned", NONE, WhaleTown::feigned));
                break;
            case "half":
                calls.add(new Call("lay, a fault", NO, WhaleTown::lay));
                calls.add(new Call("quiet", NONE, x -> x.quiet(0, 0)));
                calls.add(new Call("quiet brings", NONE, x -> x.quiet(0, 1)));
                break;
            case "full":
                calls.add(new Call("write", FULL, x -> x.write('b')));
                calls.add(new Call("day", FULL, x -> x.day(3, 3)));
                calls.add(new Call("ahead", FULL, x -> x.ahead(3, 0)));
                calls.add(new Call("keep", FULL, WhaleTown::keep));
                calls.add(new Call("lay, a fault", NO, WhaleTown::lay));
                break;
            case "least":
                addNotAsThingsStand(calls);
                calls.add(new Call("lay, no sign", NO, WhaleTown::lay));
                calls.add(new Call("crews", NONE, x -> x.crews(-1)));
                calls.add(new Call("fault", NONE, WhaleTown::fault));
                calls.add(new Call("feigned", NONE, WhaleTown::feigned));
                break;
            case "could not be":
                addNoDiary(calls);
                break;
            default:
                calls.add(new Call("sight", NONE, x -> x.sight(0, 1, 0)));
                calls.add(new Call("tells", NONE, x -> x.tells(0)));
                calls.add(new Call("quiet", NONE, x -> x.quiet(99, 0)));
                calls.add(new Call("crews, no boats", NONE, x -> x.crews(0)));
        }
    }

    private static void addNotAsThingsStand(List<Call> calls) {
        calls.add(new Call("undo", NO, WhaleTown::undo));
        calls.add(new Call("back", NO, WhaleTown::back));
    }

    private static void addNoDiary(List<Call> calls) {
        calls.add(new Call("belief", NONE, x -> x.belief(1, 1)));
        calls.add(new Call("near", NONE, x -> x.near(3, 1, 0)));
        calls.add(new Call("sight", NONE, x -> x.sight(1, 1, 1)));
        calls.add(new Call("tells", NONE, x -> x.tells(1)));
        calls.add(new Call("board", NONE, x -> x.board(1, 2)));
        calls.add(new Call("quiet", NONE, x -> x.quiet(100, 0)));
        calls.add(new Call("crews, no way", NONE, x -> x.crews(-1)));
        calls.add(new Call("feigned", NONE, WhaleTown::feigned));
        calls.add(new Call("back", NO, WhaleTown::back));
    }

    // ---- the calls that only ask

    private static List<ToLongFunction<WhaleTown>> questions(Town town) {
        int set = (1 << town.works) - 1;
        List<ToLongFunction<WhaleTown>> questions = new ArrayList<>();
        questions.add(WhaleTown::fault);
        questions.add(x -> x.sign(town.signs - 1, 3));
        questions.add(x -> x.works(set, 1));
        questions.add(x -> x.diary(Math.max(0, town.days - 1), 0));
        questions.add(x -> x.belief(1, 0));
        questions.add(x -> x.near(3, set, 0));
        questions.add(x -> x.sight(town.signs - 1, set, 1));
        questions.add(x -> x.tells(set));
        questions.add(x -> x.board(set, 1));
        questions.add(x -> x.quiet(50, 0));
        questions.add(x -> x.saved(30));
        questions.add(x -> x.crews(-1));
        questions.add(x -> x.drift(12, 6, 4, 0, 0));
        questions.add(WhaleTown::first);
        questions.add(WhaleTown::orders);
        questions.add(WhaleTown::feigned);
        questions.add(x -> x.spring(9999, set, 0));
        questions.add(x -> x.count(8));
        return questions;
    }

    public static void main(String[] args) {
        for (Town town : towns()) {
            long[] asItWas = look(town.make.get());
            List<Call> calls = new ArrayList<>();
            addWhales(calls, town);
            addDiary(calls, town);
            addSleep(calls, town);
            addBoatsAndSpring(calls, town);
            addOthers(calls, town.name);
            sentence("BAD, NO, NONE, FULL: Of several the first in this order; nothing changes then");
            for (Call call : calls) {
                dueNothingChanges(town, asItWas, call);
            }
            sentence("nothing changes by a call that asks, and it answers the same again");
            List<ToLongFunction<WhaleTown>> questions = questions(town);
            for (int i = 0; i < questions.size(); i++) {
                ToLongFunction<WhaleTown> question = questions.get(i);
                long answer = question.applyAsLong(town.make.get());
                dueNothingChanges(town, asItWas, new Call("question " + i, answer, question));
            }
        }
        end();
    }
}
