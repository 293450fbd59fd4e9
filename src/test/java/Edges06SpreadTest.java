/** The edges of promise 6, a test for each sentence. */
public final class Edges06SpreadTest {
    private static final Due due = new Due();

    public static void main(String[] args) {
        due.test("How many places the spread of a place has: one", Edges06SpreadTest::one);
        due.test("How many places the spread of a place has: all", Edges06SpreadTest::all);
        due.test("-1 when there is no such place", Edges06SpreadTest::noSuchPlace);
        due.test("leaves places 0 .. i - 1 where they are", Edges06SpreadTest::leavesPlacesBefore);
        due.end();
    }

    private static void one() {
        for (int places = 1; places <= 24; places++) {
            CycleGroups x = new CycleGroups(places);
            for (int p = 0; p < places; p++) {
                due.same("spread(" + p + ") without moves", x.spread(p), 1);
            }
        }
        due.same("spread(0) of 1 place with moves", Edges.ONE_PLACE.get().spread(0), 1);
    }

    private static void all() {
        CycleGroups x = Edges.allWays(24);
        for (int p = 0; p < 24; p++) {
            due.same("spread(" + p + ") of all ways of 24", x.spread(p), 24 - p);
        }
    }

    private static void noSuchPlace() {
        for (int places = 1; places <= 24; places++) {
            CycleGroups x = new CycleGroups(places);
            due.same("spread(0) of " + places, x.spread(0), 1);
            due.same("spread of the last of " + places, x.spread(places - 1), 1);
            for (int p : Edges.outside(places)) {
                due.same("spread(" + p + ") of " + places, x.spread(p), -1);
            }
        }
        CycleGroups all = Edges.allWays(24);
        for (int p : Edges.outside(24)) {
            due.same("spread(" + p + ") of all ways of 24", all.spread(p), -1);
        }
    }

    private static void leavesPlacesBefore() {
        CycleGroups x = new CycleGroups(24);
        Due.makeCycles(x, new int[] {0, 23}, new int[] {1, 22});
        due.same("spread(0)", x.spread(0), 2);
        due.same("spread(1): what moves it moves 0", x.spread(1), 1);
        CycleGroups y = new CycleGroups(24);
        Due.makeCycles(y, new int[] {1, 22}, new int[] {0, 23});
        Due.makeCycles(y, new int[] {22, 23});
        due.same("spread(0)", y.spread(0), 4);
        due.same("spread(1): what leaves 0 leaves it", y.spread(1), 1);
        due.same("spread(22)", y.spread(22), 2);
        due.same("spread(23)", y.spread(23), 1);
    }
}
