/** The edges of promise 18, a test for each sentence. */
public final class Edges18ParityTest {
    private static final Due due = new Due();

    public static void main(String[] args) {
        due.test("0 when a state is made by an even number of exchanges of two: none",
            Edges18ParityTest::none);
        due.test("0 when a state is made by an even number of exchanges of two, 1 by an odd one",
            Edges18ParityTest::oneByOne);
        due.test("1 by an odd one: each two places", Edges18ParityTest::eachTwo);
        due.test("-1 when there is no such state", Edges18ParityTest::noSuchState);
        due.end();
    }

    private static void none() {
        for (int places = 1; places <= 24; places++) {
            CycleGroups x = new CycleGroups(places);
            x.state();
            due.same("parity at rest of " + places, x.parity(0), 0);
        }
        due.same("parity(1) of 1 place", Edges.ONE_PLACE.get().parity(1), 0);
    }

    private static void oneByOne() {
        CycleGroups x = new CycleGroups(24);
        x.state();
        for (int k = 1; k <= 200; k++) {
            x.exchange(0, k % 24, (k % 24 + 1 + k / 24) % 24);
            due.same("parity behind " + k + " exchanges", x.parity(0), k % 2);
        }
        for (int length = 2; length <= 24; length++) {
            CycleGroups y = new CycleGroups(24);
            y.state();
            y.move();
            for (int p = 0; p + 1 < length; p++) {
                y.cycle(0, p, p + 1);
            }
            y.apply(0, 0);
            due.same("parity of a cycle of " + length, y.parity(0), (length - 1) % 2);
        }
    }

    private static void eachTwo() {
        for (int a = 0; a < 24; a++) {
            for (int b = 0; b < 24; b++) {
                if (a != b) {
                    CycleGroups x = new CycleGroups(24);
                    x.state();
                    x.exchange(0, a, b);
                    due.same("parity of " + a + " and " + b, x.parity(0), 1);
                }
            }
        }
    }

    private static void noSuchState() {
        for (int s : Edges.outside(0)) {
            due.same("parity(" + s + ") without states", Edges.BARE_24.get().parity(s), -1);
        }
        for (int s : Edges.outside(2)) {
            due.same("parity(" + s + ") with 2 states", Edges.SMALL.get().parity(s), -1);
            due.same("parity(" + s + ") of 1 place", Edges.ONE_PLACE.get().parity(s), -1);
        }
        CycleGroups full = Edges.FULL.get();
        for (int s : Edges.outside(20)) {
            due.same("parity(" + s + ") with 20 states", full.parity(s), -1);
        }
        due.same("parity(0) with 20 states", full.parity(0), 0);
        due.same("parity(19) with 20 states", full.parity(19), 0);
        due.same("parity(1) with 2 states", Edges.SMALL.get().parity(1), 1);
    }
}
