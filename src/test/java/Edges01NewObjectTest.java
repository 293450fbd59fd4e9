/** The edges of promise 1, a test for each sentence. */
public final class Edges01NewObjectTest {
    private static final Due due = new Due();

    public static void main(String[] args) {
        due.test("No moves", Edges01NewObjectTest::noMoves);
        due.test("no states", Edges01NewObjectTest::noStates);
        due.test("places is held to 1 .. 24", Edges01NewObjectTest::heldAsTheyAre);
        due.test("what is below counts as 1", Edges01NewObjectTest::belowCountsAsOne);
        due.test("what is above as 24", Edges01NewObjectTest::aboveCountsAs24);
        due.test("A new object", Edges01NewObjectTest::objectsOfTheirOwn);
        due.end();
    }

    private static void noMoves() {
        for (int places = 1; places <= 24; places++) {
            String made = "new CycleGroups(" + places + "): ";
            CycleGroups x = new CycleGroups(places);
            x.state();
            due.no(made + "cycle(0, 0, 1)", x.cycle(0, 0, 1));
            due.no(made + "apply(0, 0)", x.apply(0, 0));
            due.no(made + "scramble(0, 1, 1)", x.scramble(0, 1, 1));
            due.same(made + "the first move()", x.move(), 0);
        }
    }

    private static void noStates() {
        for (int places = 1; places <= 24; places++) {
            String made = "new CycleGroups(" + places + "): ";
            CycleGroups x = new CycleGroups(places);
            x.move();
            due.no(made + "apply(0, 0)", x.apply(0, 0));
            due.no(made + "exchange(0, 0, 1)", x.exchange(0, 0, 1));
            due.no(made + "scramble(0, 1, 1)", x.scramble(0, 1, 1));
            due.same(made + "image(0, 0)", x.image(0, 0), -1);
            due.same(made + "member(0)", x.member(0), -1);
            due.same(made + "level(0)", x.level(0), -1);
            due.same(made + "parity(0)", x.parity(0), -1);
            due.same(made + "times(0)", x.times(0), 0);
            due.same(made + "the first state()", x.state(), 0);
        }
    }

    private static void heldAsTheyAre() {
        for (int places = 1; places <= 24; places++) {
            hasPlaces("new CycleGroups(" + places + ")", new CycleGroups(places), places);
        }
    }

    private static void belowCountsAsOne() {
        int[] below = {0, -1, -2, -23, -24, -25, -256, -65535, Integer.MIN_VALUE,
            Integer.MIN_VALUE + 1};
        for (int places : below) {
            hasPlaces("new CycleGroups(" + places + ")", new CycleGroups(places), 1);
        }
    }

    private static void aboveCountsAs24() {
        int[] above = {25, 26, 48, 127, 128, 256, 257, 65537, 1 << 30, Integer.MAX_VALUE - 1,
            Integer.MAX_VALUE};
        for (int places : above) {
            hasPlaces("new CycleGroups(" + places + ")", new CycleGroups(places), 24);
        }
    }

    /** Each call that takes a place takes the last one and no further one. */
    private static void hasPlaces(String made, CycleGroups x, int places) {
        int last = places - 1;
        x.move();
        x.state();
        due.same(made + ": spread of the last place", x.spread(last), 1);
        due.same(made + ": spread beyond", x.spread(places), -1);
        due.same(made + ": orbit of the last place", x.orbit(last), last);
        due.same(made + ": orbit beyond", x.orbit(places), -1);
        due.same(made + ": stabiliser of the last place", x.stabiliser(last, 0), 1);
        due.same(made + ": stabiliser beyond", x.stabiliser(places, 0), -1);
        due.same(made + ": block of the last place", x.block(last, last), 1);
        due.same(made + ": block beyond", x.block(0, places), -1);
        due.same(made + ": image of the last place", x.image(0, last), last);
        due.same(made + ": image beyond", x.image(0, places), -1);
        due.same(made + ": level at rest", x.level(0), places);
        due.no(made + ": cycle beyond", x.cycle(0, 0, places));
        due.no(made + ": exchange beyond", x.exchange(0, 0, places));
        due.same(made + ": cycle of the first and last", x.cycle(0, 0, last) ? 1 : 0, last > 0 ? 1 : 0);
        due.same(made + ": exchange of them", x.exchange(0, 0, last) ? 1 : 0, last > 0 ? 1 : 0);
        due.same(made + ": image behind it", x.image(0, 0), last);
        due.same(made + ": member behind it", x.member(0), 1);
    }

    private static void objectsOfTheirOwn() {
        CycleGroups first = Edges.FULL.get();
        CycleGroups second = new CycleGroups(24);
        due.same("move() of a second object", second.move(), 0);
        due.same("state() of a second object", second.state(), 0);
        second.cycle(0, 22, 23);
        due.same("order(0) of the second", second.order(0), 2);
        due.same("order(0) of the first", first.order(0), 4);
        due.same("orbit(23) of the first", first.orbit(23), 23);
        due.same("orbit(23) of the second", second.orbit(23), 22);
        Edges.leavesAll(due, "the second's state", second, 0, 24);
    }
}
