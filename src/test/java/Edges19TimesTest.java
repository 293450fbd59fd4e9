/** The edges of promise 19, a test for each sentence. */
public final class Edges19TimesTest {
    private static final Due due = new Due();

    public static void main(String[] args) {
        due.test("at least 1", Edges19TimesTest::atLeastOne);
        due.test("until all places are left where they are", Edges19TimesTest::allPlaces);
        due.test("until all places are left where they are: the most", Edges19TimesTest::most);
        due.test("0 when there is no such state", Edges19TimesTest::noSuchState);
        due.test("How often a state has to be taken: asking leaves it", Edges19TimesTest::isLeft);
        due.end();
    }

    private static void atLeastOne() {
        for (int places = 1; places <= 24; places++) {
            CycleGroups x = new CycleGroups(places);
            x.state();
            due.same("times at rest of " + places, x.times(0), 1);
        }
        due.same("times(1) of 1 place", Edges.ONE_PLACE.get().times(1), 1);
    }

    /** One state made of cycles of these lengths, which fill the places from the first on. */
    private static long timesOf(int... lengths) {
        CycleGroups x = new CycleGroups(24);
        x.move();
        x.state();
        int at = 0;
        for (int length : lengths) {
            for (int k = 0; k + 1 < length; k++) {
                x.cycle(0, at + k, at + k + 1);
            }
            at += length;
        }
        x.apply(0, 0);
        return x.times(0);
    }

    private static void allPlaces() {
        for (int length = 1; length <= 24; length++) {
            due.same("times of a cycle of " + length, timesOf(length), length);
        }
        due.same("times of the last two exchanged", timesOf(1, 1, 1, 1, 1, 1, 1, 1, 1, 1, 1, 1, 1, 1,
            1, 1, 1, 1, 1, 1, 1, 1, 2), 2);
        due.same("times of 2 and 4", timesOf(2, 4), 4);
        due.same("times of 4 and 6", timesOf(4, 6), 12);
        due.same("times of 6 and 4", timesOf(6, 4), 12);
        due.same("times of 6, 9 and 4", timesOf(6, 9, 4), 36);
        due.same("times of 12 and 12", timesOf(12, 12), 12);
        due.same("times of 11 and 13", timesOf(11, 13), 143);
    }

    private static void most() {
        due.same("times of 1, 3, 5, 7 and 8", timesOf(1, 3, 5, 7, 8), 840);
        due.same("times of 8, 7, 5, 3 and 1", timesOf(8, 7, 5, 3, 1), 840);
        due.same("times of 4, 9 and 11", timesOf(4, 9, 11), 396);
        due.same("times of 3, 4, 6 and 11", timesOf(3, 4, 6, 11), 132);
    }

    private static void noSuchState() {
        for (int s : Edges.outside(0)) {
            due.same("times(" + s + ") without states", Edges.BARE_24.get().times(s), 0);
        }
        for (int s : Edges.outside(2)) {
            due.same("times(" + s + ") with 2 states", Edges.SMALL.get().times(s), 0);
            due.same("times(" + s + ") of 1 place", Edges.ONE_PLACE.get().times(s), 0);
        }
        CycleGroups full = Edges.FULL.get();
        for (int s : Edges.outside(20)) {
            due.same("times(" + s + ") with 20 states", full.times(s), 0);
        }
        due.same("times(0) with 20 states", full.times(0), 3);
        due.same("times(19) with 20 states", full.times(19), 3);
        due.same("times(0) with 2 states", Edges.SMALL.get().times(0), 3);
        due.same("times(1) with 2 states", Edges.SMALL.get().times(1), 2);
    }

    private static void isLeft() {
        Edges.refused(due, "times(0)", 3, Edges.SMALL, x -> x.times(0));
        Edges.refused(due, "times(19)", 3, Edges.FULL, x -> x.times(19));
    }
}
