import java.util.function.Supplier;

/** The edges of promise 3, a test for each sentence. */
public final class Edges03CycleTest {
    private static final Due due = new Due();

    public static void main(String[] args) {
        due.test("it puts from to the place to", Edges03CycleTest::fromAtRest);
        due.test("to there where it put from", Edges03CycleTest::fromOnItsWay);
        due.test("False, doing nothing, when there is no such move", Edges03CycleTest::noSuchMove);
        due.test("no such move or place: from", Edges03CycleTest::noSuchFrom);
        due.test("no such move or place: to", Edges03CycleTest::noSuchTo);
        due.test("they are one", Edges03CycleTest::theyAreOne);
        due.test("the move does not leave to where it is", Edges03CycleTest::toIsNotLeft);
        due.test("no two to one", Edges03CycleTest::noTwoToOne);
        due.end();
    }

    private static void fromAtRest() {
        for (int a = 0; a < 24; a++) {
            int b = 23 - a;
            CycleGroups x = new CycleGroups(24);
            x.move();
            x.state();
            due.yes("cycle(0, " + a + ", " + b + ")", x.cycle(0, a, b));
            x.apply(0, 0);
            for (int p = 0; p < 24; p++) {
                int want = p == a ? b : p == b ? a : p;
                due.same("cycle(0, " + a + ", " + b + ") at " + p, x.image(0, p), want);
            }
        }
    }

    private static void fromOnItsWay() {
        CycleGroups x = new CycleGroups(24);
        x.move();
        x.state();
        due.yes("cycle(0, 0, 23)", x.cycle(0, 0, 23));
        due.yes("cycle(0, 0, 5), between 0 and 23", x.cycle(0, 0, 5));
        x.apply(0, 0);
        Edges.images(due, "0 to 5 to 23 to 0", x, 0, 5, 1, 2, 3, 4, 23, 6);
        due.same("23 to 0", x.image(0, 23), 0);
        due.yes("cycle(0, 23, 7), behind 23", x.cycle(0, 23, 7));
        x.state();
        x.apply(1, 0);
        Edges.images(due, "0 to 5 to 23 to 7 to 0", x, 1, 5, 1, 2, 3, 4, 23, 6, 0);
        due.same("23 to 7", x.image(1, 23), 7);
    }

    private static void noSuchMove() {
        for (int m : Edges.outside(0)) {
            Edges.refused(due, "cycle(" + m + ", 0, 1) without moves", Edges.BARE_24,
                x -> x.cycle(m, 0, 1));
        }
        for (int m : Edges.outside(2)) {
            Edges.refused(due, "cycle(" + m + ", 3, 4) with 2 moves", Edges.SMALL,
                x -> x.cycle(m, 3, 4));
        }
        for (int m : Edges.outside(10)) {
            Edges.refused(due, "cycle(" + m + ", 22, 23) with 10 moves", Edges.FULL,
                x -> x.cycle(m, 22, 23));
        }
        for (int m = 0; m < 10; m++) {
            due.yes("cycle(" + m + ", 22, 23) with 10 moves", Edges.FULL.get().cycle(m, 22, 23));
        }
        due.yes("cycle(0, 3, 4) with 2 moves", Edges.SMALL.get().cycle(0, 3, 4));
        due.yes("cycle(1, 3, 4) with 2 moves", Edges.SMALL.get().cycle(1, 3, 4));
    }

    private static void noSuchFrom() {
        for (int p : Edges.outside(1)) {
            Edges.refused(due, "cycle(0, " + p + ", 0) of 1 place", Edges.ONE_PLACE,
                x -> x.cycle(0, p, 0));
        }
        for (int p : Edges.outside(5)) {
            Edges.refused(due, "cycle(0, " + p + ", 4) of 5 places", Edges.SMALL,
                x -> x.cycle(0, p, 4));
        }
        for (int p : Edges.outside(24)) {
            Edges.refused(due, "cycle(9, " + p + ", 0) of 24 places", Edges.FULL,
                x -> x.cycle(9, p, 0));
        }
        due.yes("cycle(0, 0, 4) of 5 places", Edges.SMALL.get().cycle(0, 0, 4));
        due.yes("cycle(0, 4, 3) of 5 places", Edges.SMALL.get().cycle(0, 4, 3));
        due.yes("cycle(9, 0, 1) of 24 places", Edges.FULL.get().cycle(9, 0, 1));
        due.yes("cycle(9, 23, 0) of 24 places", Edges.FULL.get().cycle(9, 23, 0));
    }

    private static void noSuchTo() {
        for (int p : Edges.outside(1)) {
            Edges.refused(due, "cycle(0, 0, " + p + ") of 1 place", Edges.ONE_PLACE,
                x -> x.cycle(0, 0, p));
        }
        for (int p : Edges.outside(5)) {
            Edges.refused(due, "cycle(0, 4, " + p + ") of 5 places", Edges.SMALL,
                x -> x.cycle(0, 4, p));
        }
        for (int p : Edges.outside(24)) {
            Edges.refused(due, "cycle(9, 0, " + p + ") of 24 places", Edges.FULL,
                x -> x.cycle(9, 0, p));
        }
        due.yes("cycle(1, 4, 0) of 5 places", Edges.SMALL.get().cycle(1, 4, 0));
        due.yes("cycle(0, 3, 4) of 5 places", Edges.SMALL.get().cycle(0, 3, 4));
        due.yes("cycle(9, 23, 0) of 24 places", Edges.FULL.get().cycle(9, 23, 0));
        due.yes("cycle(9, 0, 23) of 24 places", Edges.FULL.get().cycle(9, 0, 23));
    }

    private static void theyAreOne() {
        Edges.refused(due, "cycle(0, 0, 0) of 1 place", Edges.ONE_PLACE, x -> x.cycle(0, 0, 0));
        for (int place = 0; place < 24; place++) {
            int p = place;
            Edges.refused(due, "cycle(5, " + p + ", " + p + ")", Edges.FULL, x -> x.cycle(5, p, p));
        }
        for (int far : Edges.outside(24)) {
            Edges.refused(due, "cycle(5, " + far + ", " + far + ")", Edges.FULL,
                x -> x.cycle(5, far, far));
        }
    }

    private static void toIsNotLeft() {
        // Of move 0 of SMALL, 0, 1 and 2 are on their way, and 3 and 4 at rest.
        for (int from = 0; from < 5; from++) {
            for (int to = 0; to < 3; to++) {
                int a = from;
                int b = to;
                Edges.refused(due, "cycle(0, " + a + ", " + b + ")", Edges.SMALL,
                    x -> x.cycle(0, a, b));
            }
        }
        due.yes("cycle(1, 1, 0): another move puts 0 elsewhere", Edges.SMALL.get().cycle(1, 1, 0));
        due.yes("cycle(0, 2, 3): from may be on its way", Edges.SMALL.get().cycle(0, 2, 3));
        Supplier<CycleGroups> full = Edges.with(Edges.BARE_24, x -> {
            x.move();
            for (int p = 0; p < 23; p++) {
                x.cycle(0, p, p + 1);
            }
        });
        for (int place = 0; place < 24; place++) {
            int to = place;
            int from = (place + 7) % 24;
            Edges.refused(due, "cycle(0, " + from + ", " + to + ") of a cycle of all", full,
                x -> x.cycle(0, from, to));
        }
    }

    /** However a move is lengthened, it puts each place to a place of its own. */
    private static void noTwoToOne() {
        CycleGroups x = new CycleGroups(24);
        x.move();
        for (int k = 0; k < 400; k++) {
            x.cycle(0, k * 5 % 25 - 1 + k / 100, k * 7 % 26 - 1);
        }
        x.state();
        x.apply(0, 0);
        long seen = 0;
        for (int p = 0; p < 24; p++) {
            seen |= 1L << x.image(0, p);
        }
        due.same("places put to", seen, (1L << 24) - 1);
    }
}
