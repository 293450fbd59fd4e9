/** The edges of promise 10, a test for each sentence. */
public final class Edges10BlockTest {
    private static final Due due = new Due();

    public static void main(String[] args) {
        due.test("The least set of places that has two places: two", Edges10BlockTest::two);
        due.test("The least set of places that has two places: all", Edges10BlockTest::all);
        due.test("makes itself or a set that has none of its places", Edges10BlockTest::between);
        due.test("1 when both are one", Edges10BlockTest::bothAreOne);
        due.test("-1 when there is no such place: the first", Edges10BlockTest::noSuchFirst);
        due.test("-1 when there is no such place: the second", Edges10BlockTest::noSuchSecond);
        due.test("-1 when there is no such place: both", Edges10BlockTest::noSuchBoth);
        due.end();
    }

    private static CycleGroups turn24() {
        CycleGroups x = new CycleGroups(24);
        x.move();
        for (int p = 0; p < 23; p++) {
            x.cycle(0, p, p + 1);
        }
        return x;
    }

    private static void two() {
        CycleGroups x = new CycleGroups(24);
        due.same("block(0, 1) without moves", x.block(0, 1), 2);
        due.same("block(0, 23) without moves", x.block(0, 23), 2);
        due.same("block(23, 0) without moves", x.block(23, 0), 2);
        due.same("block(0, 1) of 2 places", new CycleGroups(2).block(0, 1), 2);
        due.same("block(0, 12) of a turn of 24", turn24().block(0, 12), 2);
        due.same("block(23, 11) of a turn of 24", turn24().block(23, 11), 2);
    }

    private static void all() {
        CycleGroups x = Edges.allWays(24);
        due.same("block(0, 1) of all ways", x.block(0, 1), 24);
        due.same("block(0, 23) of all ways", x.block(0, 23), 24);
        due.same("block(23, 22) of all ways", x.block(23, 22), 24);
        due.same("block(0, 1) of a turn of 24", turn24().block(0, 1), 24);
        CycleGroups y = Edges.allWays(23);
        due.same("block(0, 23) with a place that is left", y.block(0, 23), 24);
        due.same("block(0, 22) beside a place that is left", y.block(0, 22), 23);
    }

    private static void between() {
        CycleGroups x = turn24();
        int[] want = {1, 24, 12, 8, 6, 24, 4, 24, 3, 8, 12, 24, 2};
        for (int d = 0; d < want.length; d++) {
            due.same("block(0, " + d + ") of a turn of 24", x.block(0, d), want[d]);
            due.same("block(23, " + (23 - d) + ") of a turn of 24", x.block(23, 23 - d), want[d]);
        }
        CycleGroups together = new CycleGroups(4);
        Due.makeCycles(together, new int[] {0, 1}, new int[] {2, 3});
        due.same("block(0, 2), turned together", together.block(0, 2), 2);
        CycleGroups apart = new CycleGroups(4);
        Due.makeCycles(apart, new int[] {0, 1});
        Due.makeCycles(apart, new int[] {2, 3});
        due.same("block(0, 2), turned apart", apart.block(0, 2), 4);
    }

    private static void bothAreOne() {
        for (int places = 1; places <= 24; places++) {
            CycleGroups x = new CycleGroups(places);
            due.same("block(0, 0) of " + places, x.block(0, 0), 1);
            due.same("block of the last of " + places, x.block(places - 1, places - 1), 1);
        }
        CycleGroups all = Edges.allWays(24);
        for (int p = 0; p < 24; p++) {
            due.same("block(" + p + ", " + p + ") of all ways", all.block(p, p), 1);
        }
    }

    private static void noSuchFirst() {
        for (int places = 1; places <= 24; places++) {
            CycleGroups x = new CycleGroups(places);
            for (int p : Edges.outside(places)) {
                due.same("block(" + p + ", 0) of " + places, x.block(p, 0), -1);
                due.same("block(" + p + ", last) of " + places, x.block(p, places - 1), -1);
            }
        }
        CycleGroups all = Edges.allWays(24);
        for (int p : Edges.outside(24)) {
            due.same("block(" + p + ", 12) of all ways", all.block(p, 12), -1);
        }
    }

    private static void noSuchSecond() {
        for (int places = 1; places <= 24; places++) {
            CycleGroups x = new CycleGroups(places);
            for (int p : Edges.outside(places)) {
                due.same("block(0, " + p + ") of " + places, x.block(0, p), -1);
                due.same("block(last, " + p + ") of " + places, x.block(places - 1, p), -1);
            }
        }
        CycleGroups all = Edges.allWays(24);
        for (int p : Edges.outside(24)) {
            due.same("block(12, " + p + ") of all ways", all.block(12, p), -1);
        }
    }

    /** Read so: 1 is answered for places alone, so that -1 goes before it. */
    private static void noSuchBoth() {
        for (int places = 1; places <= 24; places++) {
            CycleGroups x = new CycleGroups(places);
            for (int p : Edges.outside(places)) {
                due.same("block(" + p + ", " + p + ") of " + places, x.block(p, p), -1);
                due.same("block(" + p + ", -1) of " + places, x.block(p, -1), -1);
            }
        }
    }
}
