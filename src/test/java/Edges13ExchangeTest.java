import java.util.function.Supplier;

/** The edges of promise 13, a test for each sentence. */
public final class Edges13ExchangeTest {
    private static final Due due = new Due();

    public static void main(String[] args) {
        due.test("what it put to one of them it puts to the other one",
            Edges13ExchangeTest::whatItPutToThem);
        due.test("and the other way round: true: each two places", Edges13ExchangeTest::eachTwo);
        due.test("false, doing nothing, when there is no such state",
            Edges13ExchangeTest::noSuchState);
        due.test("no such state or place: the first", Edges13ExchangeTest::noSuchFirst);
        due.test("no such state or place: the second", Edges13ExchangeTest::noSuchSecond);
        due.test("or they are one", Edges13ExchangeTest::theyAreOne);
        due.end();
    }

    private static void whatItPutToThem() {
        CycleGroups x = Edges.SMALL.get();
        // State 0 puts 0 to 1, 1 to 2, 2 to 0.
        due.yes("exchange(0, 1, 4)", x.exchange(0, 1, 4));
        Edges.images(due, "exchange(0, 1, 4)", x, 0, 4, 2, 0, 3, 1);
        due.yes("exchange(0, 4, 0)", x.exchange(0, 4, 0));
        Edges.images(due, "exchange(0, 4, 0)", x, 0, 0, 2, 4, 3, 1);
        Edges.images(due, "the other state", x, 1, 0, 1, 2, 4, 3);
    }

    private static void eachTwo() {
        for (int a = 0; a < 24; a++) {
            for (int b = 0; b < 24; b++) {
                if (a != b) {
                    eachTwo(a, b);
                }
            }
        }
    }

    private static void eachTwo(int a, int b) {
        CycleGroups x = new CycleGroups(24);
        for (int s = 0; s < 20; s++) {
            x.state();
        }
        String call = "exchange(19, " + a + ", " + b + ")";
        due.yes(call, x.exchange(19, a, b));
        for (int p = 0; p < 24; p++) {
            due.same(call + " at " + p, x.image(19, p), p == a ? b : p == b ? a : p);
        }
    }

    private static void noSuchState() {
        for (int s : Edges.outside(0)) {
            refused(Edges.BARE_24, s, 0, 1);
        }
        for (int s : Edges.outside(2)) {
            refused(Edges.SMALL, s, 0, 4);
        }
        for (int s : Edges.outside(20)) {
            refused(Edges.FULL, s, 0, 23);
        }
        due.yes("exchange(0, 0, 23) with 20 states", Edges.FULL.get().exchange(0, 0, 23));
        due.yes("exchange(19, 0, 23) with 20 states", Edges.FULL.get().exchange(19, 0, 23));
    }

    private static void refused(Supplier<CycleGroups> making, int state, int a, int b) {
        Edges.refused(due, "exchange(" + state + ", " + a + ", " + b + ")", making,
            x -> x.exchange(state, a, b));
    }

    private static void noSuchFirst() {
        for (int p : Edges.outside(1)) {
            refused(Edges.ONE_PLACE, 0, p, 0);
        }
        for (int p : Edges.outside(5)) {
            refused(Edges.SMALL, 0, p, 0);
            refused(Edges.SMALL, 1, p, 4);
        }
        for (int p : Edges.outside(24)) {
            refused(Edges.FULL, 19, p, 0);
            refused(Edges.FULL, 0, p, 23);
        }
    }

    private static void noSuchSecond() {
        for (int p : Edges.outside(1)) {
            refused(Edges.ONE_PLACE, 0, 0, p);
        }
        for (int p : Edges.outside(5)) {
            refused(Edges.SMALL, 0, 0, p);
            refused(Edges.SMALL, 1, 4, p);
        }
        for (int p : Edges.outside(24)) {
            refused(Edges.FULL, 19, 0, p);
            refused(Edges.FULL, 0, 23, p);
        }
    }

    private static void theyAreOne() {
        refused(Edges.ONE_PLACE, 0, 0, 0);
        for (int p = 0; p < 24; p++) {
            refused(Edges.FULL, 7, p, p);
        }
        for (int far : Edges.outside(24)) {
            refused(Edges.FULL, 7, far, far);
        }
    }
}
