import java.util.function.ToLongFunction;

/** The edges of the terms, a test for each sentence and each call that asks for the group. */
public final class EdgesTermsTest {
    private static final Due due = new Due();
    private static final String AS_THEY_ARE = "as they are whenever it is asked for: ";

    public static void main(String[] args) {
        due.test("without any: the one that leaves all places", EdgesTermsTest::withoutAny);
        due.test("any, as often as one likes", EdgesTermsTest::asOftenAsOneLikes);
        asTheyAre("run()", CycleGroups::run, 0, 1, 1, 2);
        asTheyAre("base(0)", x -> x.base(0), -1, 20, 20, 20);
        asTheyAre("base(1)", x -> x.base(1), -1, -1, -1, 21);
        asTheyAre("spread(20)", x -> x.spread(20), 1, 2, 3, 3);
        asTheyAre("spread(21)", x -> x.spread(21), 1, 1, 1, 2);
        asTheyAre("order(0)", x -> x.order(0), 1, 2, 3, 6);
        asTheyAre("stabiliser(20, 0)", x -> x.stabiliser(20, 0), 1, 1, 1, 2);
        asTheyAre("stabiliser(0, 0)", x -> x.stabiliser(0, 0), 1, 2, 3, 6);
        asTheyAre("orbit(21)", x -> x.orbit(21), 21, 20, 20, 20);
        asTheyAre("orbit(23)", x -> x.orbit(23), 23, 23, 20, 20);
        asTheyAre("block(20, 23)", x -> x.block(20, 23), 2, 3, 3, 3);
        asTheyAre("block(0, 20)", x -> x.block(0, 20), 2, 3, 4, 4);
        asTheyAre("member(0)", x -> x.member(0), 0, 1, 0, 1);
        asTheyAre("level(0)", x -> x.level(0), 20, 24, 21, 24);
        due.test("the moves as they are: a move of the past is not of the group",
            EdgesTermsTest::noMoveOfThePast);
        due.test("the moves as they are: each of ten moves", EdgesTermsTest::eachOfTenMoves);
        due.end();
    }

    private static void withoutAny() {
        for (int places = 1; places <= 24; places++) {
            CycleGroups x = new CycleGroups(places);
            x.state();
            due.same("run() of " + places, x.run(), 0);
            due.same("order(0) of " + places, x.order(0), 1);
            due.same("order(1) of " + places, x.order(1), -1);
            due.same("member(0) of " + places, x.member(0), 1);
            due.same("level(0) of " + places, x.level(0), places);
            for (int p = 0; p < places; p++) {
                due.same("spread(" + p + ") of " + places, x.spread(p), 1);
                due.same("stabiliser(" + p + ", 0) of " + places, x.stabiliser(p, 0), 1);
                due.same("orbit(" + p + ") of " + places, x.orbit(p), p);
                due.same("block(0, " + p + ") of " + places, x.block(0, p), p == 0 ? 1 : 2);
            }
        }
    }

    /** The group has each way that the turn gives, the way back too. */
    private static void asOftenAsOneLikes() {
        CycleGroups x = new CycleGroups(24);
        x.state();
        x.move();
        for (int p = 0; p < 23; p++) {
            x.cycle(0, p, p + 1);
        }
        for (int k = 0; k < 25; k++) {
            due.same("member(0), turned " + k + " times", x.member(0), 1);
            x.apply(0, 0);
        }
        x.state();
        // Exchanges that put each place to the one before it.
        for (int p = 1; p < 24; p++) {
            x.exchange(1, p, p - 1);
        }
        due.same("image(1, 0)", x.image(1, 0), 23);
        due.same("member(1), turned back", x.member(1), 1);
    }

    /**
     * One question is asked without moves, then with 20 and 21 exchanged, then with the same move made
     * longer by 23, then with a second move that exchanges 21 and 23; the state exchanges 20 and 21.
     */
    private static void asTheyAre(String name, ToLongFunction<CycleGroups> question, long... want) {
        due.test(AS_THEY_ARE + name, () -> {
            CycleGroups x = new CycleGroups(24);
            x.state();
            x.exchange(0, 20, 21);
            due.same(name + " without moves", question.applyAsLong(x), want[0]);
            x.move();
            due.same(name + " with a move at rest", question.applyAsLong(x), want[0]);
            x.cycle(0, 20, 21);
            due.same(name + " with 20 to 21 to 20", question.applyAsLong(x), want[1]);
            x.cycle(0, 21, 23);
            due.same(name + " with 20 to 21 to 23 to 20", question.applyAsLong(x), want[2]);
            x.move();
            due.same(name + " with one more at rest", question.applyAsLong(x), want[2]);
            x.cycle(1, 23, 21);
            due.same(name + " with a second move", question.applyAsLong(x), want[3]);
            due.same(name + " once more", question.applyAsLong(x), want[3]);
        });
    }

    private static void noMoveOfThePast() {
        CycleGroups x = new CycleGroups(24);
        x.move();
        x.state();
        x.cycle(0, 0, 1);
        x.apply(0, 0);
        due.same("member(0), the move itself", x.member(0), 1);
        due.same("order(0)", x.order(0), 2);
        x.cycle(0, 1, 2);
        due.same("member(0), the move of the past", x.member(0), 0);
        due.same("order(0) of three", x.order(0), 3);
        x.cycle(0, 2, 3);
        due.same("order(0) of four", x.order(0), 4);
        x.cycle(0, 10, 11);
        due.same("order(0) of four and two", x.order(0), 4);
        due.same("block(0, 2)", x.block(0, 2), 2);
    }

    /** Each of the ten moves counts, the first and the last alike. */
    private static void eachOfTenMoves() {
        for (int m = 0; m < 10; m++) {
            CycleGroups x = new CycleGroups(24);
            x.state();
            x.exchange(0, 0, 23);
            for (int k = 0; k < 10; k++) {
                x.move();
            }
            due.same("order(0) before", x.order(0), 1);
            x.cycle(m, 0, 23);
            String moved = " with move " + m + " of ten";
            due.same("run()" + moved, x.run(), 1);
            due.same("order(0)" + moved, x.order(0), 2);
            due.same("orbit(23)" + moved, x.orbit(23), 0);
            due.same("block(0, 1)" + moved, x.block(0, 1), 3);
            due.same("stabiliser(23, 0)" + moved, x.stabiliser(23, 0), 1);
            due.same("member(0)" + moved, x.member(0), 1);
        }
    }
}
