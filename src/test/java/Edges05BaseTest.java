/** The edges of promise 5, a test for each sentence. */
public final class Edges05BaseTest {
    private static final Due due = new Due();

    public static void main(String[] args) {
        due.test("The k-th place of THE BASE, by numbers, from 0 on", Edges05BaseTest::byNumbers);
        due.test("-1 when there is none such: below", Edges05BaseTest::below);
        due.test("-1 when there is none such: above", Edges05BaseTest::above);
        due.test("-1 when there is none such: no place at all", Edges05BaseTest::noneAtAll);
        due.end();
    }

    private static void byNumbers() {
        CycleGroups x = new CycleGroups(24);
        Due.makeCycles(x, new int[] {23, 20});
        Due.makeCycles(x, new int[] {9, 5});
        Due.makeCycles(x, new int[] {3, 0, 1});
        due.same("base(0)", x.base(0), 0);
        due.same("base(1)", x.base(1), 5);
        due.same("base(2)", x.base(2), 20);
        CycleGroups all = Edges.allWays(24);
        for (int k = 0; k < 23; k++) {
            due.same("base(" + k + ") of all ways of 24", all.base(k), k);
        }
    }

    private static void below() {
        CycleGroups all = Edges.allWays(24);
        int[] below = {-1, -2, -23, -24, -256, Integer.MIN_VALUE + 1, Integer.MIN_VALUE};
        for (int k : below) {
            due.same("base(" + k + ")", all.base(k), -1);
            due.same("base(" + k + ") of SMALL", Edges.SMALL.get().base(k), -1);
        }
    }

    private static void above() {
        for (int count = 2; count <= 24; count++) {
            CycleGroups x = Edges.allWays(count);
            due.same("the last base of all ways of " + count, x.base(count - 2), count - 2);
            for (int k : Edges.outside(count - 1)) {
                due.same("base(" + k + ") of all ways of " + count, x.base(k), -1);
            }
        }
    }

    private static void noneAtAll() {
        for (int k : Edges.outside(0)) {
            due.same("base(" + k + ") without moves", Edges.BARE_24.get().base(k), -1);
            due.same("base(" + k + ") of 1 place", Edges.ONE_PLACE.get().base(k), -1);
        }
    }
}
