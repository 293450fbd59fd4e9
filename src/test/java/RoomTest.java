import com.sun.management.ThreadMXBean;
import java.lang.management.ManagementFactory;
import java.util.Random;

/** How much a run makes, for a chain made anew again and again; and that no arguments make it throw. */
public final class RoomTest {
    private static final Due due = new Due();
    /** 7.3 million elements are the room of all runs; an int has four bytes. */
    private static final long MOST_BYTES_A_RUN = 200_000;
    private static final int[] ODD = {Integer.MIN_VALUE, Integer.MIN_VALUE + 1, -24, -1, 0, 1, 2, 9,
        10, 11, 19, 20, 21, 23, 24, 25, 999, 1000, 1001, Integer.MAX_VALUE - 1, Integer.MAX_VALUE};

    public static void main(String[] args) {
        dearestRun();
        long before = allocated();
        dearestRun();
        long made = allocated() - before;
        due.yes("a run makes " + made + " bytes", made < MOST_BYTES_A_RUN);
        for (int seed = 0; seed < 400; seed++) {
            oddArguments(seed);
        }
        due.end();
    }

    private static long allocated() {
        ThreadMXBean threads = (ThreadMXBean) ManagementFactory.getThreadMXBean();
        return threads.getThreadAllocatedBytes(Thread.currentThread().getId());
    }

    /** Each move is lengthened by one place at a time, and the group is asked for after each. */
    private static void dearestRun() {
        CycleGroups x = new CycleGroups(24);
        x.state();
        int calls = 1;
        for (int m = 0; m < 10; m++) {
            x.move();
            calls++;
        }
        for (int p = 0; calls + 2 <= 512; p++) {
            x.cycle(9 - p / 23 % 10, p * 7 % 24, (p * 7 + 1 + p / 24) % 24);
            x.order(p % 24);
            calls += 2;
        }
    }

    private static void oddArguments(int seed) {
        Random random = new Random(seed);
        CycleGroups x = new CycleGroups(ODD[seed % ODD.length]);
        String last = "new";
        try {
            for (int call = 0; call < 512; call++) {
                int kind = random.nextInt(18);
                int[] a = {odd(random), odd(random), odd(random)};
                last = "call " + call + " of kind " + kind + " with " + a[0] + ", " + a[1] + ", " + a[2];
                oddCall(x, kind, a, random.nextLong());
            }
            due.yes("run " + seed, true);
        } catch (RuntimeException thrown) {
            due.yes("run " + seed + " threw " + thrown + " at " + last, false);
        }
    }

    private static int odd(Random random) {
        return random.nextInt(3) == 0 ? ODD[random.nextInt(ODD.length)] : random.nextInt(24);
    }

    private static void oddCall(CycleGroups x, int kind, int[] a, long seed) {
        switch (kind) {
            case 0 -> x.move();
            case 1 -> x.cycle(a[0] % 12, a[1], a[2]);
            case 2 -> x.run();
            case 3 -> x.base(a[0]);
            case 4 -> x.spread(a[0]);
            case 5 -> x.order(a[0]);
            case 6 -> x.stabiliser(a[0], a[1]);
            case 7 -> x.orbit(a[0]);
            case 8 -> x.block(a[0], a[1]);
            case 9 -> x.state();
            case 10 -> x.apply(a[0], a[1]);
            case 11 -> x.exchange(a[0], a[1], a[2]);
            case 12 -> x.scramble(a[0], seed, a[1]);
            case 13 -> x.image(a[0], a[1]);
            case 14 -> x.member(a[0]);
            case 15 -> x.level(a[0]);
            case 16 -> x.parity(a[0]);
            default -> x.times(a[0]);
        }
    }
}
