import java.math.BigInteger;
import java.util.function.Supplier;

/** The edges of promise 14, a test for each sentence. */
public final class Edges14ScrambleTest {
    private static final Due due = new Due();
    private static final BigInteger FACTOR = new BigInteger("6364136223846793005");
    private static final BigInteger ADDEND = new BigInteger("1442695040888963407");
    private static final BigInteger ALL_64_BITS = BigInteger.ONE.shiftLeft(64);
    private static final long[] SEEDS = {0, 1, -1, 2, -2, 77, 1L << 32, -(1L << 32), 1L << 62,
        Integer.MAX_VALUE, Integer.MIN_VALUE, Long.MAX_VALUE, Long.MAX_VALUE - 1, Long.MIN_VALUE,
        Long.MIN_VALUE + 1};

    public static void main(String[] args) {
        due.test("n times (0 to 1,000): 0", Edges14ScrambleTest::noTimes);
        due.test("n times (0 to 1,000): 1 and 2", Edges14ScrambleTest::fewTimes);
        due.test("n times (0 to 1,000): 999 and 1,000", Edges14ScrambleTest::mostTimes);
        due.test("64 bits", Edges14ScrambleTest::wrapsAround);
        due.test("the seed at first", Edges14ScrambleTest::seedAtFirst);
        due.test("the upper 31 bits of X modulo their number", Edges14ScrambleTest::eachNumberOfMoves);
        due.test("False, doing nothing, when there is no such state",
            Edges14ScrambleTest::noSuchState);
        due.test("no move", Edges14ScrambleTest::noMove);
        due.test("or n is not so: below", Edges14ScrambleTest::tooFew);
        due.test("or n is not so: above", Edges14ScrambleTest::tooMany);
        due.end();
    }

    /** One state, and moves that turn a cycle of six or exchange two places, each another way. */
    private static CycleGroups withMoves(int count) {
        CycleGroups x = new CycleGroups(24);
        for (int m = 0; m < count; m++) {
            if (m % 2 == 0) {
                Due.makeCycles(x, new int[] {m, m + 1, m + 2, m + 13, m + 14, m + 15});
            } else {
                Due.makeCycles(x, new int[] {m, 23 - m});
            }
        }
        x.state();
        x.exchange(0, 0, 23);
        return x;
    }

    private static BigInteger next(BigInteger x) {
        return FACTOR.multiply(x).add(ADDEND).mod(ALL_64_BITS);
    }

    /** Which moves are applied, by numbers without an end. */
    private static int[] applied(long seed, int n, int count) {
        int[] numbers = new int[n];
        BigInteger x = BigInteger.valueOf(seed).mod(ALL_64_BITS);
        for (int k = 0; k < n; k++) {
            x = next(x);
            numbers[k] = x.shiftRight(33).mod(BigInteger.valueOf(count)).intValue();
        }
        return numbers;
    }

    private static int[] imagesOf(CycleGroups x, int state) {
        int[] row = new int[24];
        for (int p = 0; p < 24; p++) {
            row[p] = x.image(state, p);
        }
        return row;
    }

    /** The state is compared with one to which the moves are put one by one, by the test itself. */
    private static void asByHand(long seed, int n, int count) {
        String call = "scramble(0, " + seed + "L, " + n + ") with " + count + " moves";
        int[][] moves = new int[count][];
        for (int m = 0; m < count; m++) {
            CycleGroups y = withMoves(count);
            y.state();
            y.apply(1, m);
            moves[m] = imagesOf(y, 1);
        }
        CycleGroups x = withMoves(count);
        int[] want = imagesOf(x, 0);
        for (int m : applied(seed, n, count)) {
            for (int p = 0; p < 24; p++) {
                want[p] = moves[m][want[p]];
            }
        }
        due.yes(call, x.scramble(0, seed, n));
        Edges.images(due, call, x, 0, want);
    }

    private static void noTimes() {
        for (long seed : SEEDS) {
            CycleGroups x = Edges.FULL.get();
            due.yes("scramble(19, " + seed + "L, 0)", x.scramble(19, seed, 0));
        }
        Edges.refused(due, "scramble(0, 5, 0), which does nothing", 1, Edges.SMALL,
            x -> x.scramble(0, 5, 0) ? 1 : 0);
        Edges.refused(due, "scramble(19, 5, 0), which does nothing", 1, Edges.FULL,
            x -> x.scramble(19, 5, 0) ? 1 : 0);
    }

    private static void fewTimes() {
        for (long seed : SEEDS) {
            asByHand(seed, 1, 10);
            asByHand(seed, 2, 10);
        }
    }

    private static void mostTimes() {
        for (long seed : SEEDS) {
            asByHand(seed, 999, 10);
            asByHand(seed, 1000, 10);
        }
        CycleGroups one = Edges.ONE_PLACE.get();
        due.yes("scramble(1, 3, 1000) of 1 place", one.scramble(1, 3, 1000));
        due.same("image(1, 0) of 1 place", one.image(1, 0), 0);
    }

    /** Seeds for which X passes the ends of 64 bits, and has its upper bit set at the last time. */
    private static void wrapsAround() {
        long[] seeds = {Long.MIN_VALUE, Long.MAX_VALUE, -1, 1, 3, 1L << 63 | 1, 1L << 40};
        for (long seed : seeds) {
            for (int n = 1; n < 12; n++) {
                asByHand(seed, n, 10);
                asByHand(seed, n, 7);
            }
        }
    }

    private static void seedAtFirst() {
        // The upper bits of these seeds would all choose move 0: it is the X behind that chooses.
        for (long seed = 0; seed < 40; seed++) {
            asByHand(seed, 1, 10);
        }
        // Each call begins with its own seed, not with the X of the call before.
        CycleGroups x = withMoves(10);
        x.scramble(0, 11, 20);
        x.scramble(0, 11, 20);
        CycleGroups y = withMoves(10);
        for (int time = 0; time < 2; time++) {
            for (int m : applied(11, 20, 10)) {
                y.apply(0, m);
            }
        }
        Edges.images(due, "a second call with the seed", x, 0, imagesOf(y, 0));
    }

    private static void eachNumberOfMoves() {
        for (int count = 1; count <= 10; count++) {
            for (long seed : SEEDS) {
                asByHand(seed, 1, count);
                asByHand(seed, 25, count);
            }
        }
    }

    private static void noSuchState() {
        Supplier<CycleGroups> oneMove = Edges.with(Edges.BARE_24, CycleGroups::move);
        for (int s : Edges.outside(0)) {
            Edges.refused(due, "scramble(" + s + ", 1, 5) without states", oneMove,
                x -> x.scramble(s, 1, 5));
        }
        for (int s : Edges.outside(2)) {
            Edges.refused(due, "scramble(" + s + ", 1, 5) with 2 states", Edges.SMALL,
                x -> x.scramble(s, 1, 5));
        }
        for (int s : Edges.outside(20)) {
            Edges.refused(due, "scramble(" + s + ", 1, 5) with 20 states", Edges.FULL,
                x -> x.scramble(s, 1, 5));
            Edges.refused(due, "scramble(" + s + ", 1, 0) with 20 states", Edges.FULL,
                x -> x.scramble(s, 1, 0));
        }
        for (int s = 0; s < 20; s++) {
            due.yes("scramble(" + s + ", 1, 5) with 20 states", Edges.FULL.get().scramble(s, 1, 5));
        }
    }

    private static void noMove() {
        Supplier<CycleGroups> states = Edges.with(Edges.BARE_24, x -> {
            x.state();
            x.exchange(0, 0, 23);
        });
        int[] counts = {0, 1, 2, 1000};
        for (int n : counts) {
            Edges.refused(due, "scramble(0, 1, " + n + ") without a move", states,
                x -> x.scramble(0, 1, n));
        }
        CycleGroups y = states.get();
        y.move();
        due.yes("scramble(0, 1, 1) with one move", y.scramble(0, 1, 1));
        due.yes("scramble(0, 1, 0) with one move", y.scramble(0, 1, 0));
    }

    private static void tooFew() {
        int[] counts = {-1, -2, -1000, -1001, -65536, Integer.MIN_VALUE + 1, Integer.MIN_VALUE};
        for (int n : counts) {
            Edges.refused(due, "scramble(0, 1, " + n + ")", Edges.SMALL, x -> x.scramble(0, 1, n));
            Edges.refused(due, "scramble(19, -1, " + n + ")", Edges.FULL,
                x -> x.scramble(19, -1, n));
        }
    }

    private static void tooMany() {
        int[] counts = {1001, 1002, 2000, 65536, 66536, 1 << 30, Integer.MAX_VALUE - 1,
            Integer.MAX_VALUE};
        for (int n : counts) {
            Edges.refused(due, "scramble(0, 1, " + n + ")", Edges.SMALL, x -> x.scramble(0, 1, n));
            Edges.refused(due, "scramble(19, -1, " + n + ")", Edges.FULL,
                x -> x.scramble(19, -1, n));
        }
    }
}
