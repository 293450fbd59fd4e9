import java.util.function.Supplier;

/** The edges of promise 12, a test for each sentence. */
public final class Edges12ApplyTest {
    private static final Due due = new Due();

    public static void main(String[] args) {
        due.test("A move is applied to a state: true: the first and the last",
            Edges12ApplyTest::firstAndLast);
        due.test("puts each place then to where the move puts the place to which the state did",
            Edges12ApplyTest::behindTheState);
        due.test("false when there is no such state", Edges12ApplyTest::noSuchState);
        due.test("no such state or move", Edges12ApplyTest::noSuchMove);
        due.test("no such state or move: neither", Edges12ApplyTest::neither);
        due.end();
    }

    private static void firstAndLast() {
        for (int m = 0; m < 10; m++) {
            int[] states = {0, 1, 18, 19};
            for (int s : states) {
                CycleGroups x = Edges.FULL.get();
                int before = x.parity(s);
                due.yes("apply(" + s + ", " + m + ")", x.apply(s, m));
                due.same("parity(" + s + ") behind one exchange", x.parity(s), 1 - before);
            }
        }
        CycleGroups one = Edges.ONE_PLACE.get();
        due.yes("apply(1, 1) of 1 place", one.apply(1, 1));
        due.same("image(1, 0) of 1 place", one.image(1, 0), 0);
    }

    private static void behindTheState() {
        CycleGroups x = Edges.SMALL.get();
        // State 0 puts 0 to 1, 1 to 2, 2 to 0; move 1 exchanges 1 and 2.
        due.yes("apply(0, 1)", x.apply(0, 1));
        Edges.images(due, "apply(0, 1)", x, 0, 2, 1, 0, 3, 4);
        due.yes("apply(0, 0)", x.apply(0, 0));
        Edges.images(due, "apply(0, 0)", x, 0, 0, 2, 1, 3, 4);
        Edges.images(due, "the other state", x, 1, 0, 1, 2, 4, 3);
        x.cycle(0, 0, 4);
        Edges.images(due, "the move is lengthened later", x, 0, 0, 2, 1, 3, 4);
        due.yes("apply(0, 0) of the longer move", x.apply(0, 0));
        Edges.images(due, "0 to 4 to 1 to 2 to 0", x, 0, 4, 0, 2, 3, 1);
    }

    private static void noSuchState() {
        Supplier<CycleGroups> oneMove = Edges.with(Edges.BARE_24, CycleGroups::move);
        for (int s : Edges.outside(0)) {
            Edges.refused(due, "apply(" + s + ", 0) without states", oneMove, x -> x.apply(s, 0));
        }
        for (int s : Edges.outside(2)) {
            Edges.refused(due, "apply(" + s + ", 0) with 2 states", Edges.SMALL,
                x -> x.apply(s, 0));
        }
        for (int s : Edges.outside(20)) {
            Edges.refused(due, "apply(" + s + ", 9) with 20 states", Edges.FULL,
                x -> x.apply(s, 9));
        }
    }

    private static void noSuchMove() {
        Supplier<CycleGroups> oneState = Edges.with(Edges.BARE_24, CycleGroups::state);
        for (int m : Edges.outside(0)) {
            Edges.refused(due, "apply(0, " + m + ") without moves", oneState, x -> x.apply(0, m));
        }
        for (int m : Edges.outside(2)) {
            Edges.refused(due, "apply(0, " + m + ") with 2 moves", Edges.SMALL,
                x -> x.apply(0, m));
        }
        for (int m : Edges.outside(10)) {
            Edges.refused(due, "apply(19, " + m + ") with 10 moves", Edges.FULL,
                x -> x.apply(19, m));
        }
    }

    private static void neither() {
        for (int k : Edges.outside(20)) {
            Edges.refused(due, "apply(" + k + ", " + k + ")", Edges.FULL, x -> x.apply(k, k));
        }
        Edges.refused(due, "apply(0, 0) of a new object", Edges.BARE_24, x -> x.apply(0, 0));
    }
}
