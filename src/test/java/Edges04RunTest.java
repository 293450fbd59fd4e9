/** The edges of promise 4, a test for each sentence. */
public final class Edges04RunTest {
    private static final Due due = new Due();

    public static void main(String[] args) {
        due.test("How many places are of THE BASE: none", Edges04RunTest::none);
        due.test("How many places are of THE BASE: as many as can be", Edges04RunTest::mostOfAll);
        due.test("when its spread has two places or more", Edges04RunTest::twoPlacesOrMore);
        due.end();
    }

    private static void none() {
        for (int places = 1; places <= 24; places++) {
            CycleGroups x = new CycleGroups(places);
            due.same("run() without moves on " + places + " places", x.run(), 0);
            for (int m = 0; m < 10; m++) {
                x.move();
            }
            due.same("run() with 10 moves that leave all", x.run(), 0);
        }
    }

    private static void mostOfAll() {
        for (int count = 1; count <= 24; count++) {
            due.same("run() of all ways of " + count, Edges.allWays(count).run(), count - 1);
        }
        CycleGroups even = new CycleGroups(24);
        Due.makeCycles(even, new int[] {0, 1, 2});
        int[] others = new int[23];
        for (int k = 0; k < 23; k++) {
            others[k] = k + 1;
        }
        Due.makeCycles(even, others);
        due.same("run() of the even ways of 24", even.run(), 22);
    }

    private static void twoPlacesOrMore() {
        CycleGroups two = new CycleGroups(24);
        Due.makeCycles(two, new int[] {22, 23});
        due.same("spread(22)", two.spread(22), 2);
        due.same("spread(23)", two.spread(23), 1);
        due.same("run() of one exchange", two.run(), 1);
        CycleGroups three = new CycleGroups(24);
        Due.makeCycles(three, new int[] {0, 12, 23});
        due.same("run() of one cycle of three", three.run(), 1);
        due.same("run() of ten exchanges", Edges.FULL.get().run(), 10);
    }
}
