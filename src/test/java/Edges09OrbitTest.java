/** The edges of promise 9, a test for each sentence. */
public final class Edges09OrbitTest {
    private static final Due due = new Due();

    public static void main(String[] args) {
        due.test("The least place to which the group can bring a place: itself",
            Edges09OrbitTest::itself);
        due.test("The least place to which the group can bring a place: one behind the other",
            Edges09OrbitTest::oneBehindTheOther);
        due.test("-1 when there is no such place", Edges09OrbitTest::noSuchPlace);
        due.end();
    }

    private static void itself() {
        for (int places = 1; places <= 24; places++) {
            CycleGroups x = new CycleGroups(places);
            for (int p = 0; p < places; p++) {
                due.same("orbit(" + p + ") without moves", x.orbit(p), p);
            }
            x.move();
            due.same("orbit of the last, with a move at rest", x.orbit(places - 1), places - 1);
        }
    }

    private static void oneBehindTheOther() {
        CycleGroups x = new CycleGroups(24);
        // Ten moves, of which the last one alone brings the way down to 3.
        for (int m = 0; m < 9; m++) {
            Due.makeCycles(x, new int[] {23 - m, 22 - m});
        }
        Due.makeCycles(x, new int[] {14, 3});
        for (int p = 0; p < 24; p++) {
            due.same("orbit(" + p + ")", x.orbit(p), p >= 14 ? 3 : p);
        }
        CycleGroups all = Edges.allWays(24);
        due.same("orbit(0) of all ways", all.orbit(0), 0);
        due.same("orbit(23) of all ways", all.orbit(23), 0);
    }

    private static void noSuchPlace() {
        for (int places = 1; places <= 24; places++) {
            CycleGroups x = new CycleGroups(places);
            due.same("orbit(0) of " + places, x.orbit(0), 0);
            due.same("orbit of the last of " + places, x.orbit(places - 1), places - 1);
            for (int p : Edges.outside(places)) {
                due.same("orbit(" + p + ") of " + places, x.orbit(p), -1);
            }
        }
        CycleGroups all = Edges.allWays(24);
        for (int p : Edges.outside(24)) {
            due.same("orbit(" + p + ") of all ways", all.orbit(p), -1);
        }
    }
}
