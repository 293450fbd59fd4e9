/** The edges of promise 11, a test for each sentence. */
public final class Edges11StateTest {
    private static final Due due = new Due();

    public static void main(String[] args) {
        due.test("A state that leaves all places", Edges11StateTest::leavesAllPlaces);
        due.test("its number, from 0 on", Edges11StateTest::numbersFromZeroOn);
        due.test("-1 when there are 20", Edges11StateTest::noneBehindTheTwentieth);
        due.test("-1 when there are 20: nothing is done", Edges11StateTest::nextDoesNothing);
        due.end();
    }

    private static void leavesAllPlaces() {
        for (int places = 1; places <= 24; places++) {
            CycleGroups x = new CycleGroups(places);
            for (int s = 0; s < 20; s++) {
                x.state();
            }
            // 20 x 24 images and the 20 states are still within 512 calls.
            for (int s = 0; s < 20; s++) {
                Edges.leavesAll(due, "state " + s + " of " + places + " places", x, s, places);
            }
        }
        CycleGroups y = Edges.SMALL.get();
        due.same("state() beside states that are not at rest", y.state(), 2);
        Edges.leavesAll(due, "a new state", y, 2, 5);
    }

    private static void numbersFromZeroOn() {
        int[] sizes = {1, 2, 23, 24};
        for (int places : sizes) {
            CycleGroups x = new CycleGroups(places);
            for (int s = 0; s < 20; s++) {
                due.same("times(" + s + ") before it is", x.times(s), 0);
                due.same("state() number " + s + " on " + places + " places", x.state(), s);
                due.same("times(" + s + ")", x.times(s), 1);
            }
        }
    }

    private static void noneBehindTheTwentieth() {
        int[] sizes = {1, 2, 23, 24};
        for (int places : sizes) {
            CycleGroups x = new CycleGroups(places);
            for (int s = 0; s < 19; s++) {
                x.state();
            }
            due.same("the 20th state()", x.state(), 19);
            for (int more = 21; more < 300; more++) {
                due.same("state() number " + more, x.state(), -1);
            }
        }
    }

    private static void nextDoesNothing() {
        Edges.refused(due, "the 21st state()", -1, Edges.FULL, CycleGroups::state);
        CycleGroups x = Edges.FULL.get();
        x.state();
        due.same("times(20)", x.times(20), 0);
        due.no("exchange(20, 0, 1)", x.exchange(20, 0, 1));
        due.same("the 22nd state()", x.state(), -1);
    }
}
