import java.math.BigInteger;

/** The edges of promise 7, a test for each sentence. */
public final class Edges07OrderTest {
    private static final Due due = new Due();

    public static void main(String[] args) {
        due.test("the lowest one being digit 0", Edges07OrderTest::lowestIsDigitZero);
        due.test("how many there are in the group: exact", Edges07OrderTest::allFactorials);
        due.test("without any: the one that leaves all places", Edges07OrderTest::withoutMoves);
        due.test("-1 when there is none such: above", Edges07OrderTest::above);
        due.test("-1 when there is none such: below", Edges07OrderTest::below);
        due.test("-1 when there is none such: a digit 0 is one", Edges07OrderTest::zerosAreDigits);
        due.end();
    }

    /** A move made of cycles of these lengths, in one object of 24 places, gives their product. */
    private static CycleGroups apart(int... lengths) {
        CycleGroups x = new CycleGroups(24);
        int at = 0;
        for (int length : lengths) {
            int[] cycle = new int[length];
            for (int k = 0; k < length; k++) {
                cycle[k] = at;
                at++;
            }
            Due.makeCycles(x, cycle);
        }
        return x;
    }

    private static void lowestIsDigitZero() {
        CycleGroups x = apart(23, 1);
        due.same("order(0) of 23", x.order(0), 3);
        due.same("order(1) of 23", x.order(1), 2);
        CycleGroups all = Edges.allWays(24);
        String digits = "620448401733239439360000";
        for (int i = 0; i < 24; i++) {
            due.same("order(" + i + ") of 24!", all.order(i), digits.charAt(23 - i) - '0');
        }
    }

    private static void allFactorials() {
        BigInteger factorial = BigInteger.ONE;
        for (int count = 1; count <= 24; count++) {
            factorial = factorial.multiply(BigInteger.valueOf(count));
            due.sameText("order of all ways of " + count, Due.orderText(Edges.allWays(count)),
                factorial.toString());
        }
    }

    private static void withoutMoves() {
        for (int places = 1; places <= 24; places++) {
            CycleGroups x = new CycleGroups(places);
            due.same("order(0) without moves on " + places, x.order(0), 1);
            due.same("order(1) without moves on " + places, x.order(1), -1);
        }
        due.same("order(0) of 1 place with moves", Edges.ONE_PLACE.get().order(0), 1);
        due.same("order(1) of 1 place with moves", Edges.ONE_PLACE.get().order(1), -1);
    }

    private static void above() {
        due.same("order(1) of 9", apart(9).order(1), -1);
        due.same("order(1) of 10", apart(10).order(1), 1);
        due.same("order(2) of 10", apart(10).order(2), -1);
        due.same("order(2) of 99", apart(9, 11).order(2), -1);
        due.same("order(2) of 100", apart(5, 5, 4).order(2), 1);
        due.same("order(3) of 100", apart(5, 5, 4).order(3), -1);
        CycleGroups all = Edges.allWays(24);
        due.same("order(23) of 24!", all.order(23), 6);
        for (int i : Edges.outside(24)) {
            due.same("order(" + i + ") of 24!", all.order(i), -1);
        }
        for (int i : Edges.outside(1)) {
            due.same("order(" + i + ") of 6", Edges.SMALL.get().order(i), -1);
        }
    }

    private static void below() {
        int[] below = {-1, -2, -23, -24, -25, -256, Integer.MIN_VALUE + 1, Integer.MIN_VALUE};
        for (int i : below) {
            due.same("order(" + i + ") of 24!", Edges.allWays(24).order(i), -1);
            due.same("order(" + i + ") without moves", Edges.BARE_24.get().order(i), -1);
        }
    }

    private static void zerosAreDigits() {
        CycleGroups x = apart(5, 5, 4);
        due.same("order(0) of 100", x.order(0), 0);
        due.same("order(1) of 100", x.order(1), 0);
        CycleGroups all = Edges.allWays(24);
        for (int i = 0; i < 4; i++) {
            due.same("order(" + i + ") of 24!", all.order(i), 0);
        }
    }
}
