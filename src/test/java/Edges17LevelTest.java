/** The edges of promise 17, a test for each sentence. */
public final class Edges17LevelTest {
    private static final Due due = new Due();

    public static void main(String[] args) {
        due.test("The first i at which that is not so", Edges17LevelTest::eachLevel);
        due.test("one of the i-th part that puts i to the same place is undone behind it",
            Edges17LevelTest::undoneBehind);
        due.test("places, when the state is of the group", Edges17LevelTest::ofTheGroup);
        due.test("-1 when there is no such state", Edges17LevelTest::noSuchState);
        due.test("Of a state: asking leaves it", Edges17LevelTest::isLeft);
        due.end();
    }

    /** Without moves each place has to be left: the first one that is not is the level. */
    private static void eachLevel() {
        for (int places = 2; places <= 24; places++) {
            for (int i = 0; i < places - 1; i++) {
                CycleGroups x = new CycleGroups(places);
                x.state();
                x.exchange(0, i, places - 1);
                due.same("level of " + i + " and the last of " + places, x.level(0), i);
            }
        }
        CycleGroups y = Edges.allWays(23);
        for (int i = 0; i < 20; i++) {
            y.state();
            y.exchange(i, i, 23);
            due.same("level of " + i + " and 23, the others by all ways", y.level(i), i);
        }
    }

    private static void undoneBehind() {
        CycleGroups x = new CycleGroups(24);
        int[] all = new int[24];
        for (int p = 0; p < 24; p++) {
            all[p] = p;
        }
        Due.makeCycles(x, all);
        // The turn is undone behind the state, so the exchange shows at the places before the turn.
        for (int k = 1; k < 20; k++) {
            int s = x.state();
            x.exchange(s, k, k + 1);
            x.apply(s, 0);
            due.same("level of " + k + " and the next, turned", x.level(s), k);
        }
        int last = x.state();
        x.apply(last, 0);
        x.exchange(last, 0, 23);
        due.same("level of 22 and 23 behind the turn", x.level(last), 22);
    }

    private static void ofTheGroup() {
        for (int places = 1; places <= 24; places++) {
            CycleGroups x = new CycleGroups(places);
            x.state();
            due.same("level at rest of " + places + " places", x.level(0), places);
            x.move();
            for (int p = 0; p + 1 < places; p++) {
                x.cycle(0, p, p + 1);
            }
            x.apply(0, 0);
            due.same("level of the turn of " + places, x.level(0), places);
            x.scramble(0, 1, 1000);
            due.same("level of the turn, 1,000 times more", x.level(0), places);
        }
        CycleGroups all = Edges.allWays(24);
        all.state();
        all.exchange(0, 0, 23);
        all.exchange(0, 22, 23);
        due.same("level by all ways", all.level(0), 24);
    }

    private static void noSuchState() {
        for (int s : Edges.outside(0)) {
            due.same("level(" + s + ") without states", Edges.BARE_24.get().level(s), -1);
        }
        for (int s : Edges.outside(2)) {
            due.same("level(" + s + ") with 2 states", Edges.SMALL.get().level(s), -1);
            due.same("level(" + s + ") of 1 place", Edges.ONE_PLACE.get().level(s), -1);
        }
        CycleGroups full = Edges.FULL.get();
        for (int s : Edges.outside(20)) {
            due.same("level(" + s + ") with 20 states", full.level(s), -1);
        }
        due.same("level(0) with 20 states", full.level(0), 1);
        due.same("level(19) with 20 states", full.level(19), 18);
        due.same("level(0) with 2 states", Edges.SMALL.get().level(0), 5);
        due.same("level(1) with 2 states", Edges.SMALL.get().level(1), 3);
    }

    private static void isLeft() {
        Edges.refused(due, "level(0)", 5, Edges.SMALL, x -> x.level(0));
        Edges.refused(due, "level(1)", 3, Edges.SMALL, x -> x.level(1));
        Edges.refused(due, "level(0)", 1, Edges.FULL, x -> x.level(0));
    }
}
