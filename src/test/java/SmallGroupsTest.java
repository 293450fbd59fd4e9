import java.util.Random;

/** Runs of 512 calls of all kinds, right and wrong ones, against the model that writes groups out. */
public final class SmallGroupsTest {
    private static final Due due = new Due();
    private static final int[] FAR = {Integer.MIN_VALUE, -7, -1, 24, 1001, Integer.MAX_VALUE};

    private final Random random;
    private final int places;
    private final CycleGroups real;
    private final SmallModel model;
    private int movesWished;

    private SmallGroupsTest(long seed, int places) {
        this.random = new Random(seed);
        this.places = places;
        this.real = new CycleGroups(places);
        this.model = new SmallModel(places);
        this.movesWished = 1 + random.nextInt(4);
    }

    public static void main(String[] args) {
        for (int seed = 0; seed < 200; seed++) {
            SmallGroupsTest run = new SmallGroupsTest(seed, seed % 8 - 1);
            for (int call = 0; call < 512; call++) {
                run.oneCall("run " + seed + ", call " + call + ": ");
            }
        }
        due.end();
    }

    private int near(int most) {
        return random.nextInt(20) == 0 ? FAR[random.nextInt(FAR.length)] : random.nextInt(most + 1);
    }

    private int place() {
        int held = Math.max(1, places);
        return random.nextInt(12) == 0 ? near(held) : random.nextInt(held);
    }

    private void oneCall(String head) {
        int m = near(movesWished);
        int s = near(3);
        int a = place();
        int b = place();
        int kind = random.nextInt(24);
        if (kind < 6) {
            makeOrTurn(head, kind, m, s, a, b);
        } else if (kind < 12) {
            askOfPlaces(head, kind, a, b);
        } else {
            askOfStates(head, kind, s, m, a, b);
        }
    }

    private void makeOrTurn(String head, int kind, int m, int s, int a, int b) {
        if (kind == 0 && random.nextInt(3) == 0) {
            due.same(head + "move()", real.move(), model.move());
        } else if (kind == 1 && random.nextInt(2) == 0) {
            due.same(head + "state()", real.state(), model.state());
        } else if (random.nextInt(3) == 0) {
            same(head + "cycle(" + m + ", " + a + ", " + b + ")", real.cycle(m, a, b),
                model.cycle(m, a, b));
        } else {
            due.same(head + "run()", real.run(), model.run());
        }
    }

    private void askOfPlaces(String head, int kind, int a, int b) {
        int k = near(4);
        switch (kind) {
            case 6 -> due.same(head + "base(" + k + ")", real.base(k), model.base(k));
            case 7 -> due.same(head + "spread(" + a + ")", real.spread(a), model.spread(a));
            case 8 -> due.same(head + "order(" + k + ")", real.order(k), model.order(k));
            case 9 -> due.same(head + "stabiliser(" + a + ", " + k + ")", real.stabiliser(a, k),
                model.stabiliser(a, k));
            case 10 -> due.same(head + "orbit(" + a + ")", real.orbit(a), model.orbit(a));
            default -> due.same(head + "block(" + a + ", " + b + ")", real.block(a, b),
                model.block(a, b));
        }
    }

    private void askOfStates(String head, int kind, int s, int m, int a, int b) {
        long seed = random.nextLong();
        int n = random.nextInt(8) == 0 ? 995 + random.nextInt(10) : random.nextInt(30) - 2;
        String of = "(" + s + ")";
        switch (kind) {
            case 12, 13 -> same(head + "apply(" + s + ", " + m + ")", real.apply(s, m),
                model.apply(s, m));
            case 14 -> same(head + "exchange(" + s + ", " + a + ", " + b + ")",
                real.exchange(s, a, b), model.exchange(s, a, b));
            case 15 -> same(head + "scramble(" + s + ", " + seed + ", " + n + ")",
                real.scramble(s, seed, n), model.scramble(s, seed, n));
            case 16, 17 -> due.same(head + "image(" + s + ", " + a + ")", real.image(s, a),
                model.image(s, a));
            case 18 -> due.same(head + "member" + of, real.member(s), model.member(s));
            case 19, 20, 21 -> due.same(head + "level" + of, real.level(s), model.level(s));
            case 22 -> due.same(head + "parity" + of, real.parity(s), model.parity(s));
            default -> due.same(head + "times" + of, real.times(s), model.times(s));
        }
    }

    private static void same(String call, boolean got, boolean want) {
        due.same(call, got ? 1 : 0, want ? 1 : 0);
    }
}
