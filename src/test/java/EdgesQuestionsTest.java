import java.util.function.ToLongFunction;

/** Questions change nothing: neither one that is answered nor one for what there is not. */
public final class EdgesQuestionsTest {
    private static final Due due = new Due();
    private static final int[] NONE_SUCH = {-1, 24, 25, Integer.MIN_VALUE, Integer.MAX_VALUE};

    public static void main(String[] args) {
        answered("run()", CycleGroups::run, 2, 10);
        answered("base(0)", x -> x.base(0), 0, 0);
        answered("spread(0)", x -> x.spread(0), 3, 2);
        answered("order(0)", x -> x.order(0), 6, 4);
        answered("stabiliser(1, 0)", x -> x.stabiliser(1, 0), 2, 2);
        answered("orbit(1)", x -> x.orbit(1), 0, 0);
        answered("block(0, 4)", x -> x.block(0, 4), 4, 4);
        answered("image(1, 3)", x -> x.image(1, 3), 4, 2);
        answered("member(1)", x -> x.member(1), 0, 0);
        answered("level(1)", x -> x.level(1), 3, 1);
        answered("parity(1)", x -> x.parity(1), 1, 0);
        answered("times(1)", x -> x.times(1), 2, 2);
        for (int k : NONE_SUCH) {
            none("base(" + k + ")", x -> x.base(k), -1);
            none("spread(" + k + ")", x -> x.spread(k), -1);
            none("order(" + k + ")", x -> x.order(k), -1);
            none("stabiliser(0, " + k + ")", x -> x.stabiliser(0, k), -1);
            none("stabiliser(" + k + ", 0)", x -> x.stabiliser(k, 0), -1);
            none("orbit(" + k + ")", x -> x.orbit(k), -1);
            none("block(" + k + ", 1)", x -> x.block(k, 1), -1);
            none("block(1, " + k + ")", x -> x.block(1, k), -1);
            none("block(" + k + ", " + k + ")", x -> x.block(k, k), -1);
            none("image(0, " + k + ")", x -> x.image(0, k), -1);
            none("image(" + k + ", 0)", x -> x.image(k, 0), -1);
            none("member(" + k + ")", x -> x.member(k), -1);
            none("level(" + k + ")", x -> x.level(k), -1);
            none("parity(" + k + ")", x -> x.parity(k), -1);
            none("times(" + k + ")", x -> x.times(k), 0);
        }
        due.end();
    }

    private static void answered(String name, ToLongFunction<CycleGroups> question, long ofSmall,
            long ofFull) {
        due.test(name + " changes nothing", () -> {
            Edges.refused(due, name + " of SMALL", ofSmall, Edges.SMALL, question);
            Edges.refused(due, name + " of FULL", ofFull, Edges.FULL, question);
        });
    }

    private static void none(String name, ToLongFunction<CycleGroups> question, long want) {
        due.test(name + " changes nothing", () -> {
            Edges.refused(due, name + " of ONE_PLACE", want, Edges.ONE_PLACE, question);
            Edges.refused(due, name + " of SMALL", want, Edges.SMALL, question);
            Edges.refused(due, name + " of FULL", want, Edges.FULL, question);
        });
    }
}
