import java.util.ArrayList;
import java.util.HashMap;
import java.util.List;
import java.util.Map;
import java.util.function.Consumer;
import java.util.function.Predicate;
import java.util.function.Supplier;
import java.util.function.ToLongFunction;

/** What the tests at the edges share: numbers beyond an edge, objects, and calls that do nothing. */
final class Edges {
    private static final int MOST_CALLS = 512;
    private static final Map<Supplier<CycleGroups>, List<String>> untouched = new HashMap<>();

    /** No moves, no states, 24 places. */
    static final Supplier<CycleGroups> BARE_24 = () -> new CycleGroups(24);
    /** One place, two moves, two states. */
    static final Supplier<CycleGroups> ONE_PLACE = Edges::onePlace;
    /** Five places: the moves 0 to 1 to 2 to 0, and 1 with 2; the states 0 1 2 turned, and 3 with 4. */
    static final Supplier<CycleGroups> SMALL = Edges::small;
    /** 24 places, 10 moves, 20 states: move m has 2 m with 2 m + 1, and leaves the other places. */
    static final Supplier<CycleGroups> FULL = Edges::full;

    private Edges() {
    }

    /** Numbers that are none of 0 .. count - 1: the first ones on both sides, far ones, int's ends. */
    static int[] outside(int count) {
        List<Integer> numbers = new ArrayList<>(List.of(Integer.MIN_VALUE, Integer.MIN_VALUE + 1,
            -65536, -256, -25, -24, -2, -1));
        // What is refused here may be fine in a larger object, so each number up to 25 is looked at.
        for (int k = count; k <= Math.max(count, 25); k++) {
            numbers.add(k);
        }
        numbers.addAll(List.of(256, 65536, 1 << 30, Integer.MAX_VALUE - 1, Integer.MAX_VALUE));
        return numbers.stream().mapToInt(Integer::intValue).toArray();
    }

    private static CycleGroups onePlace() {
        CycleGroups x = new CycleGroups(1);
        x.move();
        x.move();
        x.state();
        x.state();
        return x;
    }

    private static CycleGroups small() {
        CycleGroups x = new CycleGroups(5);
        Due.makeCycles(x, new int[] {0, 1, 2});
        Due.makeCycles(x, new int[] {1, 2});
        x.state();
        x.apply(0, 0);
        x.state();
        x.exchange(1, 3, 4);
        return x;
    }

    private static CycleGroups full() {
        CycleGroups x = new CycleGroups(24);
        for (int m = 0; m < 10; m++) {
            Due.makeCycles(x, new int[] {2 * m, 2 * m + 1});
        }
        for (int s = 0; s < 20; s++) {
            x.state();
            x.apply(s, s % 10);
            x.exchange(s, s, s + 4);
        }
        return x;
    }

    /** 24 places, and two moves that give all ways to put the first count of them. */
    static CycleGroups allWays(int count) {
        CycleGroups x = new CycleGroups(24);
        int[] cycle = new int[count];
        for (int p = 0; p < count; p++) {
            cycle[p] = p;
        }
        Due.makeCycles(x, cycle);
        if (count >= 2) {
            Due.makeCycles(x, new int[] {0, 1});
        }
        return x;
    }

    static void images(Due due, String call, CycleGroups x, int state, int... want) {
        for (int p = 0; p < want.length; p++) {
            due.same(call + ", then image(" + state + ", " + p + ")", x.image(state, p), want[p]);
        }
    }

    static void leavesAll(Due due, String call, CycleGroups x, int state, int places) {
        for (int p = 0; p < places; p++) {
            due.same(call + ", then image(" + state + ", " + p + ")", x.image(state, p), p);
        }
    }

    /** The call answers false, and what later calls answer is as if it had not been made. */
    static void refused(Due due, String name, Supplier<CycleGroups> making,
            Predicate<CycleGroups> call) {
        refused(due, name, 0, making, x -> call.test(x) ? 1 : 0);
    }

    /** The call answers as told, and what later calls answer is as if it had not been made. */
    static void refused(Due due, String name, long want, Supplier<CycleGroups> making,
            ToLongFunction<CycleGroups> call) {
        due.same(name, call.applyAsLong(making.get()), want);
        List<String> before = untouched.computeIfAbsent(making, Edges::answers);
        sameAnswers(due, name, before, answers(() -> {
            CycleGroups x = making.get();
            call.applyAsLong(x);
            return x;
        }));
        // Once more on an object whose group has been asked for before.
        sameAnswers(due, name + " after order(0)", before, answers(() -> {
            CycleGroups x = making.get();
            x.order(0);
            call.applyAsLong(x);
            return x;
        }));
    }

    static void sameAnswers(Due due, String name, List<String> want, List<String> got) {
        int at = 0;
        while (at < want.size() - 1 && want.get(at).equals(got.get(at))) {
            at++;
        }
        due.same("answers asked behind " + name, got.size(), want.size());
        due.sameText("behind " + name, got.get(at), want.get(at));
    }

    /** All that the objects made so answer, none of them asked more than 512 times. */
    static List<String> answers(Supplier<CycleGroups> making) {
        List<String> told = new ArrayList<>();
        ask(making, told, Edges::askGroup);
        ask(making, told, (x, a) -> askStabilisers(x, a, 0, 12));
        ask(making, told, (x, a) -> askStabilisers(x, a, 12, 24));
        ask(making, told, Edges::askBlocks);
        ask(making, told, Edges::askStates);
        ask(making, told, (x, a) -> askImages(x, a, 0, 10));
        ask(making, told, (x, a) -> askImages(x, a, 10, 20));
        ask(making, told, Edges::askMoves);
        ask(making, told, Edges::askScramble);
        ask(making, told, Edges::askNumbers);
        return told;
    }

    private interface Asking {
        void ask(CycleGroups x, Asked asked);
    }

    /** Writes down each answer with the call's name. */
    private static final class Asked {
        private final List<String> told;
        private int calls;

        Asked(List<String> told) {
            this.told = told;
        }

        void told(String call, long answer) {
            calls++;
            told.add(call + " = " + answer);
        }
    }

    private static void ask(Supplier<CycleGroups> making, List<String> told, Asking asking) {
        Asked asked = new Asked(told);
        asking.ask(making.get(), asked);
        // The dearest object here is made by some hundred calls.
        if (asked.calls > MOST_CALLS - 150) {
            throw new IllegalStateException("a test asks too often: " + asked.calls);
        }
    }

    private static void askGroup(CycleGroups x, Asked asked) {
        asked.told("run()", x.run());
        for (int k = -1; k < 26; k++) {
            asked.told("base(" + k + ")", x.base(k));
            asked.told("spread(" + k + ")", x.spread(k));
            asked.told("orbit(" + k + ")", x.orbit(k));
            asked.told("order(" + k + ")", x.order(k));
        }
    }

    private static void askStabilisers(CycleGroups x, Asked asked, int from, int to) {
        for (int p = from; p < to; p++) {
            for (int i = 0; i < 25; i++) {
                asked.told("stabiliser(" + p + ", " + i + ")", x.stabiliser(p, i));
            }
        }
    }

    private static void askBlocks(CycleGroups x, Asked asked) {
        for (int a = 0; a < 24; a++) {
            for (int b = a; b < 24; b++) {
                asked.told("block(" + a + ", " + b + ")", x.block(a, b));
            }
        }
    }

    private static void askStates(CycleGroups x, Asked asked) {
        for (int s = -1; s < 21; s++) {
            asked.told("member(" + s + ")", x.member(s));
            asked.told("level(" + s + ")", x.level(s));
            asked.told("parity(" + s + ")", x.parity(s));
            asked.told("times(" + s + ")", x.times(s));
        }
    }

    private static void askImages(CycleGroups x, Asked asked, int from, int to) {
        for (int s = from; s < to; s++) {
            for (int p = 0; p < 25; p++) {
                asked.told("image(" + s + ", " + p + ")", x.image(s, p));
            }
        }
    }

    private static void askMoves(CycleGroups x, Asked asked) {
        asked.told("state()", x.state());
        for (int m = 0; m < 11; m++) {
            asked.told("apply(0, " + m + ")", x.apply(0, m) ? 1 : 0);
            for (int p = 0; p < 24; p++) {
                asked.told("behind apply(0, " + m + "): image(0, " + p + ")", x.image(0, p));
            }
        }
    }

    private static void askScramble(CycleGroups x, Asked asked) {
        asked.told("state()", x.state());
        for (int n = 1; n < 4; n++) {
            asked.told("scramble(0, 7, " + n + ")", x.scramble(0, 7, n) ? 1 : 0);
            for (int p = 0; p < 24; p++) {
                asked.told("behind scramble(0, 7, " + n + "): image(0, " + p + ")", x.image(0, p));
            }
        }
    }

    private static void askNumbers(CycleGroups x, Asked asked) {
        for (int k = 0; k < 22; k++) {
            asked.told("move()", x.move());
            asked.told("state()", x.state());
        }
    }

    /** The same object, and calls made on it before it is handed on. */
    static Supplier<CycleGroups> with(Supplier<CycleGroups> making, Consumer<CycleGroups> calls) {
        return () -> {
            CycleGroups x = making.get();
            calls.accept(x);
            return x;
        };
    }
}
