/** Each promise by itself: an ordinary case, the edges that the document names, wrong inputs. */
public final class PromisesTest {
    private static final int[] FAR = {Integer.MIN_VALUE, -1, 24, 25, Integer.MAX_VALUE};
    private static final Due due = new Due();

    public static void main(String[] args) {
        newObject();
        move();
        cycle();
        run();
        base();
        spread();
        order();
        stabiliser();
        orbit();
        block();
        state();
        apply();
        exchange();
        scramble();
        image();
        member();
        level();
        parity();
        times();
        groupOfTheMovesAsTheyAre();
        due.end();
    }

    /** The six turns and mirrors of a triangle 0 1 2 and, beside it, place 3 and 4 that never move. */
    private static CycleGroups triangle() {
        CycleGroups x = new CycleGroups(5);
        Due.makeCycles(x, new int[] {0, 1, 2});
        Due.makeCycles(x, new int[] {1, 2});
        return x;
    }

    /** Two moves that are not at rest: 0 to 1 to 2 to 0, and 3 to 4 with 4 to 3. */
    private static CycleGroups twoCycles() {
        CycleGroups x = new CycleGroups(6);
        Due.makeCycles(x, new int[] {0, 1, 2});
        Due.makeCycles(x, new int[] {3, 4});
        return x;
    }

    private static void images(String call, CycleGroups x, int state, int... want) {
        for (int p = 0; p < want.length; p++) {
            due.same(call + ", then image(" + state + ", " + p + ")", x.image(state, p), want[p]);
        }
    }

    private static void newObject() {
        int[] asked = {Integer.MIN_VALUE, -5, 0, 1, 2, 23, 24, 25, 1000, Integer.MAX_VALUE};
        int[] held = {1, 1, 1, 1, 2, 23, 24, 24, 24, 24};
        for (int k = 0; k < asked.length; k++) {
            CycleGroups x = new CycleGroups(asked[k]);
            String made = "new CycleGroups(" + asked[k] + "): ";
            due.same(made + "spread of the last place", x.spread(held[k] - 1), 1);
            due.same(made + "spread beyond", x.spread(held[k]), -1);
            due.same(made + "no states", x.image(0, 0), -1);
            due.no(made + "no moves", x.cycle(0, 0, 1));
            due.same(made + "first state", x.state(), 0);
            due.no(made + "no moves to apply", x.apply(0, 0));
            due.no(made + "no moves to scramble by", x.scramble(0, 1, 1));
            due.same(made + "level is places", x.level(0), held[k]);
            due.same(made + "first move", x.move(), 0);
        }
    }

    private static void move() {
        CycleGroups x = new CycleGroups(4);
        for (int m = 0; m < 10; m++) {
            due.same("move() number " + m, x.move(), m);
        }
        due.same("the 11th move()", x.move(), -1);
        due.same("the 12th move()", x.move(), -1);
        x.state();
        due.yes("apply of the 10th move", x.apply(0, 9));
        images("a new move leaves all places", x, 0, 0, 1, 2, 3);
        due.no("apply of an 11th move", x.apply(0, 10));
    }

    private static void cycle() {
        CycleGroups x = new CycleGroups(5);
        x.move();
        x.state();
        due.yes("cycle(0, 0, 1)", x.cycle(0, 0, 1));
        due.yes("cycle(0, 0, 2) between", x.cycle(0, 0, 2));
        x.apply(0, 0);
        images("0 to 2 to 1 to 0", x, 0, 2, 0, 1, 3, 4);
        due.no("cycle(0, 0, 1) when 1 is not left", x.cycle(0, 0, 1));
        due.no("cycle(0, 3, 1) when 1 is not left", x.cycle(0, 3, 1));
        due.no("cycle(0, 3, 3)", x.cycle(0, 3, 3));
        for (int far : FAR) {
            due.no("cycle(0, " + far + ", 3)", x.cycle(0, far, 3));
            due.no("cycle(0, 3, " + far + ")", x.cycle(0, 3, far));
            due.no("cycle(" + far + ", 3, 4)", x.cycle(far, 3, 4));
        }
        due.no("cycle(0, 3, 5)", x.cycle(0, 3, 5));
        due.no("cycle(0, 5, 3)", x.cycle(0, 5, 3));
        due.no("cycle(1, 3, 4)", x.cycle(1, 3, 4));
        x.apply(0, 0);
        images("what is refused does nothing", x, 0, 1, 2, 0, 3, 4);
        due.yes("cycle(0, 3, 4) beside", x.cycle(0, 3, 4));
        x.apply(0, 0);
        images("both cycles", x, 0, 0, 1, 2, 4, 3);
    }

    private static void run() {
        CycleGroups x = triangle();
        due.same("run()", x.run(), 2);
        due.same("run() of twoCycles", twoCycles().run(), 2);
        due.same("run() without moves", new CycleGroups(24).run(), 0);
    }

    private static void base() {
        CycleGroups x = twoCycles();
        due.same("base(0)", x.base(0), 0);
        due.same("base(1)", x.base(1), 3);
        due.same("base(2)", x.base(2), -1);
        for (int far : FAR) {
            due.same("base(" + far + ")", x.base(far), -1);
        }
    }

    private static void spread() {
        CycleGroups x = triangle();
        int[] want = {3, 2, 1, 1, 1, -1};
        for (int p = 0; p < want.length; p++) {
            due.same("spread(" + p + ")", x.spread(p), want[p]);
        }
        for (int far : FAR) {
            due.same("spread(" + far + ")", x.spread(far), -1);
        }
    }

    private static void order() {
        CycleGroups x = new CycleGroups(24);
        due.same("order(0) without moves", x.order(0), 1);
        due.same("order(1) without moves", x.order(1), -1);
        int[] all = new int[24];
        for (int p = 0; p < 24; p++) {
            all[p] = p;
        }
        Due.makeCycles(x, all);
        due.sameText("order of a cycle of 24", Due.orderText(x), "24");
        Due.makeCycles(x, new int[] {0, 1});
        due.sameText("24!", Due.orderText(x), "620448401733239439360000");
        for (int far : FAR) {
            due.same("order(" + far + ")", x.order(far), -1);
        }
    }

    private static void stabiliser() {
        CycleGroups x = triangle();
        for (int p = 0; p < 5; p++) {
            due.sameText("stabiliser of " + p, Due.stabiliserText(x, p), p < 3 ? "2" : "6");
        }
        due.same("stabiliser(5, 0)", x.stabiliser(5, 0), -1);
        for (int far : FAR) {
            due.same("stabiliser(0, " + far + ")", x.stabiliser(0, far), -1);
            due.same("stabiliser(" + far + ", 0)", x.stabiliser(far, 0), -1);
        }
        CycleGroups y = new CycleGroups(24);
        Due.makeCycles(y, new int[] {0, 1, 2, 3, 4, 5, 6, 7, 8, 9, 10, 11, 12, 13, 14, 15, 16, 17, 18,
            19, 20, 21, 22});
        Due.makeCycles(y, new int[] {0, 1});
        due.sameText("stabiliser of 7 is 22!", Due.stabiliserText(y, 7), "1124000727777607680000");
        due.sameText("stabiliser of 23 is 23!", Due.stabiliserText(y, 23), "25852016738884976640000");
    }

    private static void orbit() {
        CycleGroups x = new CycleGroups(7);
        Due.makeCycles(x, new int[] {5, 3});
        Due.makeCycles(x, new int[] {6, 5});
        Due.makeCycles(x, new int[] {1, 2});
        int[] want = {0, 1, 1, 3, 4, 3, 3, -1};
        for (int p = 0; p < want.length; p++) {
            due.same("orbit(" + p + ")", x.orbit(p), want[p]);
        }
        for (int far : FAR) {
            due.same("orbit(" + far + ")", x.orbit(far), -1);
        }
    }

    private static void block() {
        CycleGroups x = new CycleGroups(10);
        Due.makeCycles(x, new int[] {0, 1, 2, 3, 4, 5});
        due.same("block(0, 3)", x.block(0, 3), 2);
        due.same("block(4, 1)", x.block(4, 1), 2);
        due.same("block(0, 2)", x.block(0, 2), 3);
        due.same("block(0, 1)", x.block(0, 1), 6);
        due.same("block(6, 7), both left", x.block(6, 7), 2);
        due.same("block(0, 7), one left", x.block(0, 7), 7);
        due.same("block(3, 3)", x.block(3, 3), 1);
        due.same("block(8, 8)", x.block(8, 8), 1);
        due.same("block(10, 10)", x.block(10, 10), -1);
        for (int far : FAR) {
            due.same("block(" + far + ", 0)", x.block(far, 0), -1);
            due.same("block(0, " + far + ")", x.block(0, far), -1);
            due.same("block(" + far + ", " + far + ")", x.block(far, far), -1);
        }
        CycleGroups y = new CycleGroups(4);
        Due.makeCycles(y, new int[] {0, 1}, new int[] {2, 3});
        due.same("block(0, 2) of two orbits turned together", y.block(0, 2), 2);
        due.same("block over two orbits turned apart", twoCycles().block(0, 3), 5);
    }

    private static void state() {
        CycleGroups x = new CycleGroups(3);
        Due.makeCycles(x, new int[] {0, 1, 2});
        for (int s = 0; s < 20; s++) {
            due.same("state() number " + s, x.state(), s);
            images("a new state leaves all places", x, s, 0, 1, 2);
            x.apply(s, 0);
        }
        due.same("the 21st state()", x.state(), -1);
        due.same("the 22nd state()", x.state(), -1);
        images("the last state stands", x, 19, 1, 2, 0);
        due.same("image(20, 0)", x.image(20, 0), -1);
    }

    private static void apply() {
        CycleGroups x = triangle();
        x.state();
        x.state();
        due.yes("apply(0, 0)", x.apply(0, 0));
        images("apply(0, 0)", x, 0, 1, 2, 0, 3, 4);
        due.yes("apply(0, 1)", x.apply(0, 1));
        images("apply(0, 1) behind it", x, 0, 2, 1, 0, 3, 4);
        for (int far : FAR) {
            due.no("apply(" + far + ", 0)", x.apply(far, 0));
            due.no("apply(0, " + far + ")", x.apply(0, far));
        }
        due.no("apply(2, 0)", x.apply(2, 0));
        due.no("apply(0, 2)", x.apply(0, 2));
        images("what is refused does nothing", x, 0, 2, 1, 0, 3, 4);
        images("the other state", x, 1, 0, 1, 2, 3, 4);
    }

    private static void exchange() {
        CycleGroups x = triangle();
        x.state();
        x.apply(0, 0);
        due.yes("exchange(0, 0, 1)", x.exchange(0, 0, 1));
        images("exchange(0, 0, 1) behind the cycle", x, 0, 0, 2, 1, 3, 4);
        due.yes("exchange(0, 4, 2)", x.exchange(0, 4, 2));
        images("exchange(0, 4, 2)", x, 0, 0, 4, 1, 3, 2);
        due.no("exchange(0, 3, 3)", x.exchange(0, 3, 3));
        due.no("exchange(1, 0, 1)", x.exchange(1, 0, 1));
        due.no("exchange(0, 0, 5)", x.exchange(0, 0, 5));
        for (int far : FAR) {
            due.no("exchange(" + far + ", 0, 1)", x.exchange(far, 0, 1));
            due.no("exchange(0, " + far + ", 1)", x.exchange(0, far, 1));
            due.no("exchange(0, 1, " + far + ")", x.exchange(0, 1, far));
        }
        images("what is refused does nothing", x, 0, 0, 4, 1, 3, 2);
    }

    private static void scramble() {
        long[] seeds = {0, 1, -1, 77, Long.MIN_VALUE, Long.MAX_VALUE, 123456789123456789L};
        // By hand it takes a call for each time, and an object is good for 512 calls.
        int[] counts = {0, 1, 2, 3, 50, 399, 400};
        for (long seed : seeds) {
            for (int n : counts) {
                scrambleAsByHand(seed, n);
            }
        }
        CycleGroups x = triangle();
        x.state();
        due.no("scramble(0, 1, 1001)", x.scramble(0, 1, 1001));
        due.no("scramble(0, 1, -1)", x.scramble(0, 1, -1));
        due.no("scramble(0, 1, least int)", x.scramble(0, 1, Integer.MIN_VALUE));
        due.no("scramble(0, 1, greatest int)", x.scramble(0, 1, Integer.MAX_VALUE));
        for (int far : FAR) {
            due.no("scramble(" + far + ", 1, 5)", x.scramble(far, 1, 5));
        }
        due.no("scramble(1, 1, 0)", x.scramble(1, 1, 0));
        images("what is refused does nothing", x, 0, 0, 1, 2, 3, 4);
        CycleGroups none = new CycleGroups(5);
        none.state();
        due.no("scramble(0, 1, 0) without a move", none.scramble(0, 1, 0));
    }

    private static void scrambleAsByHand(long seed, int n) {
        CycleGroups x = triangle();
        Due.makeCycles(x, new int[] {2, 4, 3});
        x.state();
        x.exchange(0, 1, 3);
        x.state();
        x.exchange(1, 1, 3);
        due.yes("scramble(0, " + seed + ", " + n + ")", x.scramble(0, seed, n));
        long value = seed;
        for (int k = 0; k < n; k++) {
            value = value * 6364136223846793005L + 1442695040888963407L;
            java.math.BigInteger bits = new java.math.BigInteger(Long.toUnsignedString(value));
            x.apply(1, bits.shiftRight(33).mod(java.math.BigInteger.valueOf(3)).intValue());
        }
        for (int p = 0; p < 5; p++) {
            due.same("scramble(0, " + seed + ", " + n + ") at " + p, x.image(0, p), x.image(1, p));
        }
    }

    private static void image() {
        CycleGroups x = triangle();
        due.same("image(0, 0) without a state", x.image(0, 0), -1);
        x.state();
        x.apply(0, 0);
        images("image", x, 0, 1, 2, 0, 3, 4);
        due.same("image(0, 5)", x.image(0, 5), -1);
        due.same("image(1, 0)", x.image(1, 0), -1);
        for (int far : FAR) {
            due.same("image(0, " + far + ")", x.image(0, far), -1);
            due.same("image(" + far + ", 0)", x.image(far, 0), -1);
        }
    }

    private static void member() {
        CycleGroups x = twoCycles();
        due.same("member(0) without a state", x.member(0), -1);
        x.state();
        due.same("member(0) at rest", x.member(0), 1);
        x.scramble(0, 9, 37);
        due.same("member(0) scrambled", x.member(0), 1);
        x.exchange(0, 0, 1);
        int[] before = {x.image(0, 0), x.image(0, 1), x.image(0, 2), x.image(0, 3)};
        due.same("member(0) exchanged", x.member(0), 0);
        images("member leaves the state", x, 0, before);
        x.exchange(0, 0, 1);
        due.same("member(0) exchanged back", x.member(0), 1);
        for (int far : FAR) {
            due.same("member(" + far + ")", x.member(far), -1);
        }
    }

    private static void level() {
        CycleGroups x = twoCycles();
        due.same("level(0) without a state", x.level(0), -1);
        for (int s = 0; s < 5; s++) {
            x.state();
        }
        due.same("level at rest", x.level(0), 6);
        x.apply(0, 0);
        x.apply(0, 1);
        due.same("level of the group", x.level(0), 6);
        x.exchange(1, 0, 3);
        due.same("level fails at 0", x.level(1), 0);
        x.exchange(2, 1, 2);
        due.same("level fails at 1", x.level(2), 1);
        x.apply(3, 0);
        x.exchange(3, 0, 2);
        due.same("level fails at 1 behind a cycle", x.level(3), 1);
        x.exchange(4, 4, 5);
        due.same("level fails at 4", x.level(4), 4);
        images("level leaves the state", x, 4, 0, 1, 2, 3, 5, 4);
        for (int far : FAR) {
            due.same("level(" + far + ")", x.level(far), -1);
        }
    }

    private static void parity() {
        CycleGroups x = triangle();
        due.same("parity(0) without a state", x.parity(0), -1);
        x.state();
        due.same("parity at rest", x.parity(0), 0);
        x.apply(0, 0);
        due.same("parity of a cycle of three", x.parity(0), 0);
        x.apply(0, 1);
        due.same("parity of an exchange behind it", x.parity(0), 1);
        x.exchange(0, 0, 4);
        due.same("parity of one more", x.parity(0), 0);
        for (int far : FAR) {
            due.same("parity(" + far + ")", x.parity(far), -1);
        }
    }

    private static void times() {
        CycleGroups x = new CycleGroups(24);
        due.same("times(0) without a state", x.times(0), 0);
        x.state();
        due.same("times at rest", x.times(0), 1);
        Due.makeCycles(x, new int[] {0, 1, 2}, new int[] {3, 4, 5, 6, 7},
            new int[] {8, 9, 10, 11, 12, 13, 14},
            new int[] {15, 16, 17, 18, 19, 20, 21, 22});
        x.apply(0, 0);
        due.same("times of 3, 5, 7 and 8", x.times(0), 840);
        x.apply(0, 0);
        due.same("times of 3, 5, 7, 4 and 4", x.times(0), 420);
        x.exchange(0, 2, 23);
        due.same("times of 4, 5, 7, 4 and 4", x.times(0), 140);
        x.state();
        Due.makeCycles(x, new int[] {0, 1, 2, 3, 4, 5}, new int[] {6, 7, 8, 9, 10, 11, 12, 13, 14});
        x.apply(1, 1);
        due.same("times of 6 and 9", x.times(1), 18);
        for (int far : FAR) {
            due.same("times(" + far + ")", x.times(far), 0);
        }
    }

    private static void groupOfTheMovesAsTheyAre() {
        CycleGroups x = new CycleGroups(6);
        x.state();
        x.exchange(0, 0, 1);
        due.same("not yet of the group", x.member(0), 0);
        x.move();
        due.same("a move that leaves all", x.member(0), 0);
        x.cycle(0, 0, 1);
        due.same("of the group", x.member(0), 1);
        due.sameText("order 2", Due.orderText(x), "2");
        x.cycle(0, 1, 2);
        due.same("no more of the group", x.member(0), 0);
        due.sameText("order 3", Due.orderText(x), "3");
        due.same("level", x.level(0), 1);
        x.move();
        x.cycle(1, 1, 2);
        due.same("again of the group", x.member(0), 1);
        due.sameText("order 6", Due.orderText(x), "6");
    }
}
