import java.math.BigInteger;

/** The edges of promise 8, a test for each sentence. */
public final class Edges08StabiliserTest {
    private static final Due due = new Due();

    public static void main(String[] args) {
        due.test("how many of the group leave a place where it is: exact",
            Edges08StabiliserTest::allFactorials);
        due.test("how many of the group leave a place where it is: each of the places",
            Edges08StabiliserTest::eachOfThePlaces);
        due.test("how many of the group leave a place where it is: without moves",
            Edges08StabiliserTest::withoutMoves);
        due.test("Likewise: -1 when there is no such digit", Edges08StabiliserTest::noSuchDigit);
        due.test("-1 also when there is no such place", Edges08StabiliserTest::noSuchPlace);
        due.test("Likewise: order stays what it is", Edges08StabiliserTest::orderStays);
        due.end();
    }

    private static void allFactorials() {
        BigInteger factorial = BigInteger.ONE;
        for (int count = 2; count <= 24; count++) {
            CycleGroups x = Edges.allWays(count);
            due.sameText("stabiliser of the last of " + count, Due.stabiliserText(x, count - 1),
                factorial.toString());
            due.sameText("stabiliser of the first of " + count, Due.stabiliserText(x, 0),
                factorial.toString());
            factorial = factorial.multiply(BigInteger.valueOf(count));
            if (count < 24) {
                due.sameText("stabiliser of a place that is left", Due.stabiliserText(x, 23),
                    factorial.toString());
            }
        }
    }

    private static void eachOfThePlaces() {
        CycleGroups x = new CycleGroups(24);
        Due.makeCycles(x, new int[] {0, 1, 2});
        Due.makeCycles(x, new int[] {23, 22});
        for (int p = 0; p < 24; p++) {
            int want = p < 3 ? 2 : p < 22 ? 6 : 3;
            due.same("stabiliser(" + p + ", 0)", x.stabiliser(p, 0), want);
            due.same("stabiliser(" + p + ", 1)", x.stabiliser(p, 1), -1);
        }
    }

    private static void withoutMoves() {
        for (int places = 1; places <= 24; places++) {
            CycleGroups x = new CycleGroups(places);
            for (int p = 0; p < places; p++) {
                due.same("stabiliser(" + p + ", 0) of " + places, x.stabiliser(p, 0), 1);
                due.same("stabiliser(" + p + ", 1) of " + places, x.stabiliser(p, 1), -1);
            }
        }
    }

    private static void noSuchDigit() {
        CycleGroups ten = new CycleGroups(24);
        Due.makeCycles(ten, new int[] {0, 1, 2, 3, 4, 5, 6, 7, 8, 9});
        due.same("stabiliser(0, 0), one of ten", ten.stabiliser(0, 0), 1);
        due.same("stabiliser(0, 1), one of ten", ten.stabiliser(0, 1), -1);
        due.same("stabiliser(10, 0), all ten", ten.stabiliser(10, 0), 0);
        due.same("stabiliser(10, 1), all ten", ten.stabiliser(10, 1), 1);
        due.same("stabiliser(10, 2), all ten", ten.stabiliser(10, 2), -1);
        CycleGroups all = Edges.allWays(24);
        due.same("stabiliser(23, 22) of 24!", all.stabiliser(23, 22), 2);
        for (int i : Edges.outside(23)) {
            due.same("stabiliser(0, " + i + ") of 24!", all.stabiliser(0, i), -1);
            due.same("stabiliser(23, " + i + ") of 24!", all.stabiliser(23, i), -1);
        }
    }

    private static void noSuchPlace() {
        for (int places = 1; places <= 24; places++) {
            CycleGroups x = new CycleGroups(places);
            due.same("stabiliser(0, 0) of " + places, x.stabiliser(0, 0), 1);
            due.same("stabiliser of the last of " + places, x.stabiliser(places - 1, 0), 1);
            for (int p : Edges.outside(places)) {
                due.same("stabiliser(" + p + ", 0) of " + places, x.stabiliser(p, 0), -1);
                due.same("stabiliser(" + p + ", -1) of " + places, x.stabiliser(p, -1), -1);
            }
        }
        CycleGroups all = Edges.allWays(24);
        for (int p : Edges.outside(24)) {
            due.same("stabiliser(" + p + ", 0) of 24!", all.stabiliser(p, 0), -1);
        }
    }

    private static void orderStays() {
        CycleGroups x = Edges.allWays(24);
        due.same("stabiliser(0, 22)", x.stabiliser(0, 22), 2);
        due.same("order(23) behind it", x.order(23), 6);
        due.same("stabiliser(0, 23)", x.stabiliser(0, 23), -1);
        due.same("order(22) behind it", x.order(22), 2);
        due.same("stabiliser(0, 22) once more", x.stabiliser(0, 22), 2);
    }
}
