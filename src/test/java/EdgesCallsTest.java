import java.util.function.Supplier;
import java.util.function.ToLongFunction;

/** The 512 calls of an object: each kind of call still answers as due when it is the last of them. */
public final class EdgesCallsTest {
    private static final Due due = new Due();
    private static final int CALLS = 512;
    /** How many calls Edges.FULL takes: ten moves with a cycle each, twenty states with two more. */
    private static final int CALLS_OF_FULL = 80;

    public static void main(String[] args) {
        last("move()", CycleGroups::move);
        last("cycle(9, 22, 23)", x -> x.cycle(9, 22, 23) ? 1 : 0);
        last("cycle(9, 22, 24)", x -> x.cycle(9, 22, 24) ? 1 : 0);
        last("run()", CycleGroups::run);
        last("base(9)", x -> x.base(9));
        last("base(10)", x -> x.base(10));
        last("spread(18)", x -> x.spread(18));
        last("spread(24)", x -> x.spread(24));
        last("order(3)", x -> x.order(3));
        last("order(4)", x -> x.order(4));
        last("stabiliser(0, 2)", x -> x.stabiliser(0, 2));
        last("stabiliser(0, 3)", x -> x.stabiliser(0, 3));
        last("orbit(19)", x -> x.orbit(19));
        last("orbit(24)", x -> x.orbit(24));
        last("block(0, 2)", x -> x.block(0, 2));
        last("block(23, 23)", x -> x.block(23, 23));
        last("state()", CycleGroups::state);
        last("apply(19, 9)", x -> x.apply(19, 9) ? 1 : 0);
        last("exchange(19, 0, 23)", x -> x.exchange(19, 0, 23) ? 1 : 0);
        last("scramble(19, 1, 1000)", x -> x.scramble(19, 1, 1000) ? 1 : 0);
        last("image(19, 18)", x -> x.image(19, 18));
        last("member(19)", x -> x.member(19));
        last("level(19)", x -> x.level(19));
        last("parity(19)", x -> x.parity(19));
        last("times(19)", x -> x.times(19));
        due.test("at most 512 calls: what the 511th does", EdgesCallsTest::whatTheOneBeforeDoes);
        due.test("at most 512 calls: the group anew each time", EdgesCallsTest::groupAnewEachTime);
        due.end();
    }

    /** An object that has been asked before, and changed and changed back, for 511 calls in all. */
    private static CycleGroups used(Supplier<CycleGroups> making, int callsOfMaking) {
        CycleGroups x = making.get();
        int calls = callsOfMaking;
        for (int k = 0; calls + 10 < CALLS; k++) {
            x.order(k);
            x.stabiliser(k % 24, 0);
            x.block(k % 24, k * 5 % 24);
            x.level(k % 20);
            x.exchange(k % 20, 3, 17);
            x.exchange(k % 20, 3, 17);
            x.apply(k % 20, k % 10);
            x.apply(k % 20, k % 10);
            x.cycle(k % 10, 24, 23);
            x.state();
            calls += 10;
        }
        for (; calls < CALLS - 1; calls++) {
            x.times(calls % 20);
        }
        return x;
    }

    private static void last(String name, ToLongFunction<CycleGroups> call) {
        due.test("at most 512 calls: the 512th is " + name, () -> {
            long want = call.applyAsLong(Edges.FULL.get());
            long got = call.applyAsLong(used(Edges.FULL, CALLS_OF_FULL));
            due.same(name, got, want);
        });
    }

    private static void whatTheOneBeforeDoes() {
        CycleGroups x = new CycleGroups(24);
        x.state();
        for (int k = 0; k < CALLS - 3; k++) {
            x.move();
        }
        x.cycle(9, 0, 23);
        due.same("order(0) as the 512th", x.order(0), 2);
        CycleGroups y = new CycleGroups(24);
        for (int k = 0; k < CALLS - 2; k++) {
            y.state();
        }
        y.exchange(19, 0, 23);
        due.same("image(19, 23) as the 512th", y.image(19, 23), 0);
        CycleGroups z = new CycleGroups(24);
        z.move();
        for (int k = 0; k < CALLS - 3; k++) {
            z.run();
        }
        due.same("state() as the 511th", z.state(), 0);
        due.yes("apply(0, 0) as the 512th", z.apply(0, 0));
    }

    /** Each move gets longer by a place at a time, and the group is asked for behind each. */
    private static void groupAnewEachTime() {
        CycleGroups x = new CycleGroups(24);
        int calls = 0;
        for (int m = 0; m < 10; m++) {
            x.move();
            calls++;
            for (int p = 0; p < 23 && calls + 2 <= CALLS; p++) {
                due.yes("cycle(" + m + ", " + p + ", " + (p + 1) + ")", x.cycle(m, p, p + 1));
                due.same("spread(0) behind it", x.spread(0), m == 0 ? p + 2 : 24);
                calls += 2;
            }
        }
    }
}
