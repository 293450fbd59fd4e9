/** The edges of promise 15, a test for each sentence. */
public final class Edges15ImageTest {
    private static final Due due = new Due();

    public static void main(String[] args) {
        due.test("Where a state puts a place: the first and the last", Edges15ImageTest::firstAndLast);
        due.test("-1 when there is none such: the state", Edges15ImageTest::noSuchState);
        due.test("-1 when there is none such: the place", Edges15ImageTest::noSuchPlace);
        due.test("-1 when there is none such: neither", Edges15ImageTest::neither);
        due.end();
    }

    private static void firstAndLast() {
        CycleGroups x = new CycleGroups(24);
        for (int s = 0; s < 20; s++) {
            x.state();
        }
        x.exchange(0, 0, 23);
        x.exchange(19, 0, 23);
        int[] states = {0, 19};
        for (int s : states) {
            due.same("image(" + s + ", 0)", x.image(s, 0), 23);
            due.same("image(" + s + ", 1)", x.image(s, 1), 1);
            due.same("image(" + s + ", 22)", x.image(s, 22), 22);
            due.same("image(" + s + ", 23)", x.image(s, 23), 0);
        }
        due.same("image(0, 0) of 1 place", Edges.ONE_PLACE.get().image(0, 0), 0);
        due.same("image(1, 0) of 1 place", Edges.ONE_PLACE.get().image(1, 0), 0);
    }

    private static void noSuchState() {
        for (int s : Edges.outside(0)) {
            due.same("image(" + s + ", 0) without states", Edges.BARE_24.get().image(s, 0), -1);
        }
        for (int s : Edges.outside(2)) {
            due.same("image(" + s + ", 0) with 2 states", Edges.SMALL.get().image(s, 0), -1);
        }
        for (int s : Edges.outside(20)) {
            due.same("image(" + s + ", 23) with 20 states", Edges.FULL.get().image(s, 23), -1);
        }
    }

    private static void noSuchPlace() {
        for (int places = 1; places <= 24; places++) {
            CycleGroups x = new CycleGroups(places);
            x.state();
            due.same("image(0, 0) of " + places, x.image(0, 0), 0);
            due.same("image of the last of " + places, x.image(0, places - 1), places - 1);
            for (int p : Edges.outside(places)) {
                due.same("image(0, " + p + ") of " + places, x.image(0, p), -1);
            }
        }
    }

    private static void neither() {
        for (int k : Edges.outside(24)) {
            due.same("image(" + k + ", " + k + ")", Edges.FULL.get().image(k, k), -1);
        }
    }
}
