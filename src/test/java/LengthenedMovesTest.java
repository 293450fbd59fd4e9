import java.math.BigInteger;
import java.util.List;
import java.util.Random;

/**
 * Runs of many calls in which moves are lengthened after the group has been asked for: it is THE GROUP
 * of the moves as they are whenever it is asked for.
 */
public final class LengthenedMovesTest {
    private static final Due due = new Due();
    private static final int MOST_CALLS = 512;

    public static void main(String[] args) {
        due.test("all ways of more and more places: order", LengthenedMovesTest::allWaysOrder);
        due.test("all ways of more and more places: stabiliser, of a place that is put",
            () -> allWaysStabiliser(0));
        due.test("all ways of more and more places: stabiliser, of the last place",
            () -> allWaysStabiliser(23));
        due.test("all ways of more and more places: the chain", LengthenedMovesTest::allWaysChain);
        due.test("all ways of more and more places: sets", LengthenedMovesTest::allWaysSets);
        due.test("all ways of more and more places: states", LengthenedMovesTest::allWaysStates);
        due.test("one turn of more and more places", LengthenedMovesTest::oneTurn);
        due.test("one turn of more and more places: states", LengthenedMovesTest::oneTurnStates);
        due.test("a longer move may make the group less", LengthenedMovesTest::groupGetsLess);
        due.test("as many lengthenings as there can be", LengthenedMovesTest::mostLengthenings);
        due.test("few places, with the whole group written out", LengthenedMovesTest::fewPlaces);
        due.test("many places, with a chain made in another way", LengthenedMovesTest::manyPlaces);
        due.end();
    }

    /** What is asked when the moves give all ways to put the first count places of 24. */
    private interface Asking {
        void ask(CycleGroups x, int count);
    }

    /** One object: an exchange, and a turn that gets longer by a place before each asking. */
    private static void allWaysGrow(Asking asking) {
        CycleGroups x = new CycleGroups(24);
        x.move();
        x.move();
        x.cycle(1, 0, 1);
        asking.ask(x, 2);
        for (int p = 0; p < 23; p++) {
            due.yes("cycle(0, " + p + ", " + (p + 1) + ")", x.cycle(0, p, p + 1));
            asking.ask(x, p + 2);
        }
    }

    private static BigInteger factorial(int count) {
        BigInteger product = BigInteger.ONE;
        for (int k = 2; k <= count; k++) {
            product = product.multiply(BigInteger.valueOf(k));
        }
        return product;
    }

    private static void allWaysOrder() {
        allWaysGrow((x, count) -> due.sameText("order of all ways of " + count, Due.orderText(x),
            factorial(count).toString()));
    }

    private static void allWaysStabiliser(int place) {
        allWaysGrow((x, count) -> due.sameText("stabiliser of " + place + ", all ways of " + count,
            Due.stabiliserText(x, place), factorial(place < count ? count - 1 : count).toString()));
    }

    private static void allWaysChain() {
        allWaysGrow((x, count) -> {
            String of = " of all ways of " + count;
            due.same("run()" + of, x.run(), count - 1);
            due.same("the last base" + of, x.base(count - 2), count - 2);
            due.same("base behind it" + of, x.base(count - 1), -1);
            int[] asked = {0, 1, 2, count / 2, count - 2, count - 1, 22, 23};
            for (int p : asked) {
                due.same("spread(" + p + ")" + of, x.spread(p), Math.max(1, count - p));
            }
        });
    }

    private static void allWaysSets() {
        allWaysGrow((x, count) -> {
            String of = " of all ways of " + count;
            int[] asked = {1, count - 1, 22, 23};
            for (int p : asked) {
                due.same("orbit(" + p + ")" + of, x.orbit(p), p < count ? 0 : p);
                due.same("block(0, " + p + ")" + of, x.block(0, p), p < count ? count : count + 1);
            }
            due.same("block(22, 23)" + of, x.block(22, 23), count == 24 ? 24 : count == 23 ? 24 : 2);
        });
    }

    private static void allWaysStates() {
        int[] exchanged = {0, 1, 5, 11, 22};
        allWaysGrow((x, count) -> {
            for (int s = 0; s < exchanged.length; s++) {
                if (x.times(s) == 0) {
                    x.state();
                    x.exchange(s, exchanged[s], 23);
                }
                String of = "(" + s + ") of all ways of " + count;
                due.same("member" + of, x.member(s), count == 24 ? 1 : 0);
                due.same("level" + of, x.level(s), count == 24 ? 24 : exchanged[s]);
            }
        });
    }

    private static int common(int a, int b) {
        return b == 0 ? a : common(b, a % b);
    }

    private static void oneTurn() {
        CycleGroups x = new CycleGroups(24);
        x.move();
        for (int count = 2; count <= 24; count++) {
            String of = " of a turn of " + count;
            x.cycle(0, count - 2, count - 1);
            due.same("order(0)" + of, x.order(0), count % 10);
            due.same("order(1)" + of, x.order(1), count < 10 ? -1 : count / 10);
            due.same("stabiliser(1, 0)" + of, x.stabiliser(1, 0), 1);
            due.same("stabiliser(23, 0)" + of, x.stabiliser(23, 0), count == 24 ? 1 : count % 10);
            due.same("run()" + of, x.run(), 1);
            due.same("base(0)" + of, x.base(0), 0);
            due.same("base(1)" + of, x.base(1), -1);
            due.same("spread(0)" + of, x.spread(0), count);
            due.same("spread(1)" + of, x.spread(1), 1);
            due.same("orbit(23)" + of, x.orbit(23), count == 24 ? 0 : 23);
            for (int d = 1; d < count && d <= 12; d += 2) {
                due.same("block(0, " + d + ")" + of, x.block(0, d), count / common(d, count));
                due.same("block(0, " + (d + 1) + ")" + of, x.block(0, d + 1),
                    d + 1 < count ? count / common(d + 1, count) : count + 1);
            }
        }
    }

    /** A state is made by each turn; it is of the group until the turn gets longer. */
    private static void oneTurnStates() {
        CycleGroups x = new CycleGroups(24);
        x.move();
        x.cycle(0, 0, 1);
        for (int count = 3; count <= 22; count++) {
            x.cycle(0, count - 2, count - 1);
            int s = x.state();
            x.apply(s, 0);
            String of = " of a turn of " + count;
            due.same("member(" + s + ")" + of, x.member(s), 1);
            due.same("level(" + s + ")" + of, x.level(s), 24);
            due.same("times(" + s + ")" + of, x.times(s), count);
            if (s > 0) {
                due.same("member of the turn before" + of, x.member(s - 1), 0);
                // Undone by one step of the longer turn, it puts count - 2 elsewhere, nothing before.
                due.same("level of the turn before" + of, x.level(s - 1), count - 2);
                due.same("times of the turn before" + of, x.times(s - 1), count - 1);
            }
        }
    }

    private static void groupGetsLess() {
        CycleGroups x = new CycleGroups(5);
        x.move();
        x.move();
        for (int p = 0; p < 4; p++) {
            x.cycle(1, p, p + 1);
        }
        x.state();
        x.exchange(0, 0, 1);
        x.state();
        x.exchange(1, 1, 4);
        x.exchange(1, 2, 3);
        turnOfFive("a turn of five", x, "5", 1, 5, 1, 1);
        x.cycle(0, 0, 1);
        turnOfFive("with two exchanged: all ways", x, "120", 4, 5, 4, 5);
        x.cycle(0, 1, 2);
        turnOfFive("with three turned: the even ways", x, "60", 3, 5, 4, 3);
        x.cycle(0, 2, 3);
        turnOfFive("with four turned: all ways", x, "120", 4, 5, 4, 5);
        x.cycle(0, 3, 4);
        turnOfFive("with the same turn", x, "5", 1, 5, 1, 1);
        x.move();
        x.cycle(2, 1, 4);
        turnOfFive("with two exchanged once more: all ways", x, "120", 4, 5, 4, 5);
        x.cycle(2, 2, 3);
        turnOfFive("with a flip", x, "10", 2, 5, 2, 5);
    }

    /** Of the states the first has 0 and 1 exchanged, the second is a flip of the five. */
    private static void turnOfFive(String name, CycleGroups x, String order, int run, int first,
            int second, int flipped) {
        due.sameText(name + ": order", Due.orderText(x), order);
        due.same(name + ": run()", x.run(), run);
        due.same(name + ": base(run)", x.base(run), -1);
        due.same(name + ": base(run - 1)", x.base(run - 1), run - 1);
        due.same(name + ": spread(0)", x.spread(0), first);
        due.same(name + ": spread(1)", x.spread(1), second);
        due.same(name + ": member(0)", x.member(0), order.equals("120") ? 1 : 0);
        due.same(name + ": member(1)", x.member(1), order.equals("5") ? 0 : 1);
        due.same(name + ": level(1)", x.level(1), order.equals("5") ? 1 : 5);
    }

    /**
     * All ten moves are lengthened in turn until none has a place left. When they are one turn, the
     * group is that turn; while some are longer than the others by a place, it is all ways, as what
     * the longer one does behind the shorter one undone is an exchange of two.
     */
    private static void mostLengthenings() {
        CycleGroups x = new CycleGroups(24);
        for (int m = 0; m < 10; m++) {
            x.move();
        }
        for (int count = 2; count <= 24; count++) {
            for (int m = 0; m < 10; m++) {
                String call = "cycle(" + m + ", " + (count - 2) + ", " + (count - 1) + ")";
                due.yes(call, x.cycle(m, count - 2, count - 1));
                due.same("spread(1) behind " + call, x.spread(1), m == 9 ? 1 : count - 1);
            }
        }
        due.sameText("order at last", Due.orderText(x), "24");
        due.no("one more cycle", x.cycle(9, 23, 0));
        due.same("spread(0) at last", x.spread(0), 24);
    }

    private static void fewPlaces() {
        for (int seed = 0; seed < 80; seed++) {
            Random random = new Random(seed);
            int places = 2 + seed % 5;
            CycleGroups x = new CycleGroups(places);
            SmallModel model = new SmallModel(places);
            due.same("state()", x.state(), model.state());
            int calls = 1;
            for (int made = 0; calls + 12 <= MOST_CALLS; ) {
                String head = "run " + seed + ", call " + calls + ": ";
                int m = random.nextInt(made + 1);
                int a = random.nextInt(places);
                int b = random.nextInt(places);
                if (m == made && made < 10) {
                    due.same(head + "move()", x.move(), model.move());
                    made++;
                }
                due.same(head + "cycle(" + m + ", " + a + ", " + b + ")", x.cycle(m, a, b) ? 1 : 0,
                    model.cycle(m, a, b) ? 1 : 0);
                due.same(head + "exchange(0, " + a + ", " + b + ")", x.exchange(0, a, b) ? 1 : 0,
                    model.exchange(0, a, b) ? 1 : 0);
                // Any of the questions may be the first behind the lengthening.
                int first = random.nextInt(8);
                for (int k = 0; k < 8; k++) {
                    askSmall(head, (first + k) % 8, x, model, random.nextInt(places), b);
                }
                calls += 11;
            }
        }
    }

    private static void askSmall(String head, int kind, CycleGroups x, SmallModel model, int a,
            int b) {
        String one = "(" + a + ")";
        String two = "(" + a + ", " + b % 3 + ")";
        switch (kind) {
            case 0 -> due.same(head + "run()", x.run(), model.run());
            case 1 -> due.same(head + "base" + one, x.base(a), model.base(a));
            case 2 -> due.same(head + "spread" + one, x.spread(a), model.spread(a));
            case 3 -> due.same(head + "order(" + b % 3 + ")", x.order(b % 3), model.order(b % 3));
            case 4 -> due.same(head + "stabiliser" + two, x.stabiliser(a, b % 3),
                model.stabiliser(a, b % 3));
            case 5 -> due.same(head + "orbit" + one, x.orbit(a), model.orbit(a));
            case 6 -> due.same(head + "block(" + a + ", " + b + ")", x.block(a, b),
                model.block(a, b));
            default -> {
                if (a % 2 == 0) {
                    due.same(head + "member(0)", x.member(0), model.member(0));
                } else {
                    due.same(head + "level(0)", x.level(0), model.level(0));
                }
            }
        }
    }

    private static void manyPlaces() {
        for (int seed = 0; seed < 40; seed++) {
            new ManyPlaces(seed).run();
        }
    }

    /** One run on 7 to 24 places, with the rows that the moves and the state have to be. */
    private static final class ManyPlaces {
        /** Three lengthenings, two changes of the state and ten questions at most. */
        private static final int CALLS_A_ROUND = 15;

        private final Random random;
        private final String name;
        private final int places;
        private final int copies;
        private final CycleGroups x;
        private final int[][] moves;
        private int[] state;
        private int calls;

        ManyPlaces(int seed) {
            random = new Random(seed);
            name = "run " + seed;
            places = seed % 10 == 0 ? 24 : 7 + random.nextInt(11);
            copies = 1 + seed % 3;
            x = new CycleGroups(places);
            moves = new int[1 + random.nextInt(4)][];
            for (int m = 0; m < moves.length; m++) {
                x.move();
                moves[m] = TableChain.atRest(places);
            }
            x.state();
            state = TableChain.atRest(places);
            calls = moves.length + 1;
        }

        void run() {
            while (calls + CALLS_A_ROUND <= MOST_CALLS) {
                String head = name + ", call " + calls + ": ";
                lengthen(head);
                change();
                ask(head);
                calls += CALLS_A_ROUND;
            }
        }

        /** The same step in as many copies as the run has, so that not each group is all ways. */
        private void lengthen(String head) {
            int m = random.nextInt(moves.length);
            int width = places / copies;
            int from = random.nextInt(width);
            int to = random.nextInt(width);
            for (int copy = 0; copy < copies; copy++) {
                int a = from + copy * width;
                int b = to + copy * width;
                boolean want = a != b && moves[m][b] == b;
                due.same(head + "cycle(" + m + ", " + a + ", " + b + ")", x.cycle(m, a, b) ? 1 : 0,
                    want ? 1 : 0);
                if (want) {
                    moves[m][b] = moves[m][a];
                    moves[m][a] = b;
                }
            }
        }

        private void change() {
            int m = random.nextInt(moves.length);
            x.apply(0, m);
            state = TableChain.behind(state, moves[m]);
            if (random.nextInt(4) == 0) {
                int a = random.nextInt(places);
                int b = (a + 1 + random.nextInt(places - 1)) % places;
                x.exchange(0, a, b);
                int[] swap = TableChain.atRest(places);
                swap[a] = b;
                swap[b] = a;
                state = TableChain.behind(state, swap);
            }
        }

        private void ask(String head) {
            TableChain want = new TableChain(places, moves);
            if (random.nextBoolean()) {
                askChain(head, want);
                askState(head, want);
            } else {
                askState(head, want);
                askChain(head, want);
            }
            askSets(head, want);
        }

        private void askChain(String head, TableChain want) {
            List<Integer> base = want.base();
            int k = random.nextInt(base.size() + 1);
            int p = random.nextInt(places);
            String order = want.order().toString();
            int i = random.nextInt(order.length());
            due.same(head + "base(" + k + ")", x.base(k), k < base.size() ? base.get(k) : -1);
            due.same(head + "run()", x.run(), base.size());
            due.same(head + "spread(" + p + ")", x.spread(p), want.spread(p));
            due.same(head + "order(" + i + ")", x.order(i), digit(order, i));
            due.same(head + "order(" + order.length() + ")", x.order(order.length()), -1);
        }

        private void askState(String head, TableChain want) {
            int level = want.level(state);
            due.same(head + "member(0)", x.member(0), level == places ? 1 : 0);
            due.same(head + "level(0)", x.level(0), level);
        }

        private void askSets(String head, TableChain want) {
            int p = random.nextInt(places);
            int q = random.nextInt(places);
            boolean[] reached = TableChain.reached(p, moves);
            String left = want.order().divide(BigInteger.valueOf(TableChain.size(reached)))
                .toString();
            int i = random.nextInt(left.length() + 1);
            due.same(head + "stabiliser(" + p + ", " + i + ")", x.stabiliser(p, i), digit(left, i));
            due.same(head + "orbit(" + p + ")", x.orbit(p), TableChain.least(reached));
            due.same(head + "block(" + p + ", " + q + ")", x.block(p, q),
                TableChain.block(p, q, moves));
        }

        private static int digit(String number, int i) {
            return i < number.length() ? number.charAt(number.length() - 1 - i) - '0' : -1;
        }
    }
}
