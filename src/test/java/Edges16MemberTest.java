/** The edges of promise 16, a test for each sentence. */
public final class Edges16MemberTest {
    private static final Due due = new Due();

    public static void main(String[] args) {
        due.test("Whether a state is of the group: 1", Edges16MemberTest::ofTheGroup);
        due.test("Whether a state is of the group: 0", Edges16MemberTest::notOfTheGroup);
        due.test("without any: the one that leaves all places", Edges16MemberTest::withoutMoves);
        due.test("-1 when there is no such state", Edges16MemberTest::noSuchState);
        due.test("Whether a state is of the group: asking leaves it", Edges16MemberTest::isLeft);
        due.end();
    }

    private static void ofTheGroup() {
        CycleGroups all = Edges.allWays(24);
        for (int s = 0; s < 20; s++) {
            all.state();
            all.exchange(s, s, 23 - s);
            all.exchange(s, s, 4 + s % 19);
            due.same("member(" + s + ") of all ways", all.member(s), 1);
        }
        due.same("member(0) of 1 place", Edges.ONE_PLACE.get().member(0), 1);
        due.same("member(1) of 1 place", Edges.ONE_PLACE.get().member(1), 1);
        CycleGroups last = new CycleGroups(24);
        Due.makeCycles(last, new int[] {22, 23});
        last.state();
        last.exchange(0, 22, 23);
        due.same("member(0), the last two exchanged", last.member(0), 1);
    }

    private static void notOfTheGroup() {
        CycleGroups x = Edges.allWays(23);
        for (int s = 0; s < 20; s++) {
            x.state();
            x.exchange(s, s, 23);
            due.same("member(" + s + ") of all ways of 23", x.member(s), 0);
        }
        CycleGroups even = new CycleGroups(24);
        Due.makeCycles(even, new int[] {0, 1, 2});
        int[] others = new int[23];
        for (int k = 0; k < 23; k++) {
            others[k] = k + 1;
        }
        Due.makeCycles(even, others);
        even.state();
        even.exchange(0, 22, 23);
        due.same("member(0), the last two exchanged, of the even ways", even.member(0), 0);
        even.exchange(0, 0, 1);
        due.same("member(0), exchanged twice, of the even ways", even.member(0), 1);
    }

    private static void withoutMoves() {
        for (int places = 2; places <= 24; places++) {
            CycleGroups x = new CycleGroups(places);
            x.state();
            due.same("member(0) at rest", x.member(0), 1);
            x.exchange(0, places - 2, places - 1);
            due.same("member(0) exchanged", x.member(0), 0);
        }
        CycleGroups one = new CycleGroups(1);
        one.state();
        due.same("member(0) of 1 place", one.member(0), 1);
    }

    private static void noSuchState() {
        for (int s : Edges.outside(0)) {
            due.same("member(" + s + ") without states", Edges.BARE_24.get().member(s), -1);
        }
        for (int s : Edges.outside(2)) {
            due.same("member(" + s + ") with 2 states", Edges.SMALL.get().member(s), -1);
            due.same("member(" + s + ") of 1 place", Edges.ONE_PLACE.get().member(s), -1);
        }
        CycleGroups full = Edges.FULL.get();
        for (int s : Edges.outside(20)) {
            due.same("member(" + s + ") with 20 states", full.member(s), -1);
        }
        due.same("member(0) with 20 states", full.member(0), 0);
        due.same("member(19) with 20 states", full.member(19), 0);
        due.same("member(0) with 2 states", Edges.SMALL.get().member(0), 1);
        due.same("member(1) with 2 states", Edges.SMALL.get().member(1), 0);
    }

    private static void isLeft() {
        Edges.refused(due, "member(0)", 1, Edges.SMALL, x -> x.member(0));
        Edges.refused(due, "member(1)", 0, Edges.SMALL, x -> x.member(1));
        Edges.refused(due, "member(19)", 0, Edges.FULL, x -> x.member(19));
    }
}
