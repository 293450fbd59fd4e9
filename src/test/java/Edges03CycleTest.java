import java.util.function.Supplier;

/** The edges of promise 3, a test for each sentence. */
public final class Edges03CycleTest {
    private static final Due due = new Due();

    public static void main(String[] args) {
        due.test("it puts from to the place to", Edges03CycleTest::fromAtRest);
        due.test("to there where it put from", Edges03CycleTest::fromOnItsWay);
        due.test("False, doing nothing, when there is no such move", Edges03CycleTest::noSuchMove);
        due.test("no such move or place: from", Edges03CycleTest::noSuchFrom);
        due.test("no such move or place: to", Edges03CycleTest::noSuchTo);
        due.test("they are one", Edges03CycleTest::theyAreOne);
        due.test("the move does not leave to where it is", Edges03CycleTest::toIsNotLeft);
        due.test("no two to one", Edges03CycleTest::noTwoToOne);
        due.end();
    }

    private static void fromAtRest() {
        for (int a = 0; a < 24; a++) {
            int b = 23 - a;
            CycleGroups x = new CycleGroups(24);
            x.move();
            x.state();
            due.yes("cycle(0, " + a + ", " + b + ")", x.cycle(0, a, b));
            x.apply(0, 0);
            for (int p = 0; p < 24; p++) {
                int want = p == a ? b : p == b ? a : p;
                due.same("cycle(0, " + a + ", " + b + ") at " + p, x.image(0, p), want);
            }
        }
    }

    private static void fromOnItsWay() {
        CycleGroups x = new CycleGroups(24);
        x.move();
        x.state();
        due.yes("cycle(0, 0, 23)", x.cycle(0, 0, 23));
        due.yes("cycle(0, 0, 5), between 0 and 23", x.cycle(0, 0, 5));
        x.apply(0, 0);
        Edges.images(due, "0 to 5 to 23 to 0", x, 0, 5, 1, 2, 3, 4, 23, 6);
        due.same("23 to 0", x.image(0, 23), 0);
        due.yes("cycle(0, 23, 7), behind 23", x.cycle(0, 23, 7));
        x.state();
        x.apply(1, 0);
        Edges.images(due, "0 to 5 to 23 to 7 to 0", x, 1, 5, 1, 2, 3, 4, 23, 6, 0);
        due.same("23 to 7", x.image(1, 23), 7);
    }

    private static void noSuchMove() {
        for (int m : Edges.outside(0)) {
            refused(Edges.BARE_24, m, 0, 1);
            refused(Edges.BARE_24, m, 1, 0);
        }
        // Places that all the moves leave, and such as some move puts elsewhere.
        for (int m : Edges.outside(2)) {
            refused(Edges.SMALL, m, 3, 4);
            refused(Edges.SMALL, m, 3, 0);
            refused(Edges.SMALL, m, 0, 3);
        }
        for (int m : Edges.outside(10)) {
            refused(Edges.FULL, m, 22, 23);
            refused(Edges.FULL, m, 22, 0);
            refused(Edges.FULL, m, 19, 22);
        }
        for (int m = 0; m < 10; m++) {
            due.yes("cycle(" + m + ", 22, 23) with 10 moves", Edges.FULL.get().cycle(m, 22, 23));
        }
        due.yes("cycle(0, 3, 4) with 2 moves", Edges.SMALL.get().cycle(0, 3, 4));
        due.yes("cycle(1, 3, 4) with 2 moves", Edges.SMALL.get().cycle(1, 3, 4));
    }

    private static void refused(Supplier<CycleGroups> making, int move, int from, int to) {
        Edges.refused(due, "cycle(" + move + ", " + from + ", " + to + ")", making,
            x -> x.cycle(move, from, to));
    }

    private static void noSuchFrom() {
        for (int p : Edges.outside(1)) {
            refused(Edges.ONE_PLACE, 0, p, 0);
        }
        for (int p : Edges.outside(5)) {
            refused(Edges.SMALL, 0, p, 3);
            refused(Edges.SMALL, 0, p, 4);
        }
        for (int p : Edges.outside(24)) {
            refused(Edges.FULL, 9, p, 0);
            refused(Edges.FULL, 9, p, 23);
        }
        due.yes("cycle(0, 0, 4) of 5 places", Edges.SMALL.get().cycle(0, 0, 4));
        due.yes("cycle(0, 4, 3) of 5 places", Edges.SMALL.get().cycle(0, 4, 3));
        due.yes("cycle(9, 0, 1) of 24 places", Edges.FULL.get().cycle(9, 0, 1));
        due.yes("cycle(9, 23, 0) of 24 places", Edges.FULL.get().cycle(9, 23, 0));
    }

    private static void noSuchTo() {
        for (int p : Edges.outside(1)) {
            refused(Edges.ONE_PLACE, 0, 0, p);
        }
        for (int p : Edges.outside(5)) {
            refused(Edges.SMALL, 0, 3, p);
            refused(Edges.SMALL, 1, 4, p);
        }
        for (int p : Edges.outside(24)) {
            refused(Edges.FULL, 9, 0, p);
            refused(Edges.FULL, 9, 23, p);
        }
        due.yes("cycle(1, 4, 0) of 5 places", Edges.SMALL.get().cycle(1, 4, 0));
        due.yes("cycle(0, 3, 4) of 5 places", Edges.SMALL.get().cycle(0, 3, 4));
        due.yes("cycle(9, 23, 0) of 24 places", Edges.FULL.get().cycle(9, 23, 0));
        due.yes("cycle(9, 0, 23) of 24 places", Edges.FULL.get().cycle(9, 0, 23));
    }

    private static void theyAreOne() {
        refused(Edges.ONE_PLACE, 0, 0, 0);
        for (int p = 0; p < 24; p++) {
            refused(Edges.FULL, 5, p, p);
        }
        for (int far : Edges.outside(24)) {
            refused(Edges.FULL, 5, far, far);
        }
    }

    private static void toIsNotLeft() {
        // Of move 0 of SMALL, 0, 1 and 2 are on their way, and 3 and 4 at rest.
        for (int from = 0; from < 5; from++) {
            for (int to = 0; to < 3; to++) {
                refused(Edges.SMALL, 0, from, to);
            }
        }
        due.yes("cycle(1, 1, 0): another move puts 0 elsewhere", Edges.SMALL.get().cycle(1, 1, 0));
        due.yes("cycle(0, 2, 3): from may be on its way", Edges.SMALL.get().cycle(0, 2, 3));
        Supplier<CycleGroups> turn = Edges.with(Edges.BARE_24, x -> {
            x.move();
            for (int p = 0; p < 23; p++) {
                x.cycle(0, p, p + 1);
            }
        });
        for (int to = 0; to < 24; to++) {
            refused(turn, 0, (to + 7) % 24, to);
        }
    }

    /** However a move is lengthened, it puts each place to a place of its own. */
    private static void noTwoToOne() {
        CycleGroups x = new CycleGroups(24);
        x.move();
        for (int k = 0; k < 400; k++) {
            x.cycle(0, k * 5 % 25 - 1 + k / 100, k * 7 % 26 - 1);
        }
        x.state();
        x.apply(0, 0);
        long seen = 0;
        for (int p = 0; p < 24; p++) {
            seen |= 1L << x.image(0, p);
        }
        due.same("places put to", seen, (1L << 24) - 1);
    }
}
