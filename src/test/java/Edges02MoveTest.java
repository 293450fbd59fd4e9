/** The edges of promise 2, a test for each sentence. */
public final class Edges02MoveTest {
    private static final Due due = new Due();

    public static void main(String[] args) {
        due.test("A move that leaves all places", Edges02MoveTest::leavesAllPlaces);
        due.test("its number, from 0 on", Edges02MoveTest::numbersFromZeroOn);
        due.test("-1 when there are 10", Edges02MoveTest::noneBehindTheTenth);
        due.test("-1 when there are 10: nothing is done", Edges02MoveTest::eleventhDoesNothing);
        due.end();
    }

    private static void leavesAllPlaces() {
        for (int places = 1; places <= 24; places++) {
            CycleGroups x = new CycleGroups(places);
            x.state();
            for (int m = 0; m < 10; m++) {
                x.move();
                x.apply(0, m);
            }
            Edges.leavesAll(due, "ten new moves on " + places + " places", x, 0, places);
            due.same("order(0) of ten new moves", x.order(0), 1);
            due.same("order(1) of ten new moves", x.order(1), -1);
        }
        CycleGroups y = Edges.SMALL.get();
        due.same("order(0) before a new move", y.order(0), 6);
        y.move();
        due.same("order(0) behind a new move", y.order(0), 6);
        due.yes("each place is at rest in it", y.cycle(2, 0, 4));
    }

    private static void numbersFromZeroOn() {
        int[] sizes = {1, 2, 23, 24};
        for (int places : sizes) {
            CycleGroups x = new CycleGroups(places);
            x.state();
            for (int m = 0; m < 10; m++) {
                due.no("apply of move " + m + " before it is", x.apply(0, m));
                due.same("move() number " + m + " on " + places + " places", x.move(), m);
                due.yes("apply of move " + m, x.apply(0, m));
            }
        }
    }

    private static void noneBehindTheTenth() {
        int[] sizes = {1, 2, 23, 24};
        for (int places : sizes) {
            CycleGroups x = new CycleGroups(places);
            for (int m = 0; m < 9; m++) {
                x.move();
            }
            due.same("the 10th move()", x.move(), 9);
            for (int more = 11; more < 300; more++) {
                due.same("move() number " + more, x.move(), -1);
            }
        }
    }

    private static void eleventhDoesNothing() {
        Edges.refused(due, "the 11th move()", -1, Edges.FULL, CycleGroups::move);
        CycleGroups x = Edges.FULL.get();
        x.move();
        due.no("apply(0, 10)", x.apply(0, 10));
        due.no("cycle(10, 22, 23)", x.cycle(10, 22, 23));
        due.same("the 12th move()", x.move(), -1);
    }
}
