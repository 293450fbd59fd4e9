import java.math.BigInteger;
import java.util.List;
import java.util.Random;

/** Groups on up to 24 places, asked for when they are whole, against a chain made in another way. */
public final class LargeGroupsTest {
    private static final Due due = new Due();

    public static void main(String[] args) {
        for (int seed = 0; seed < 60; seed++) {
            Random random = new Random(seed);
            int places = 7 + random.nextInt(18);
            int[][] moves = new int[1 + random.nextInt(5)][];
            int kind = seed % 4;
            for (int m = 0; m < moves.length; m++) {
                moves[m] = rowOfKind(random, places, kind);
            }
            compare("seed " + seed + ": ", places, moves, random);
        }
        due.end();
    }

    private static int[] rowOfKind(Random random, int places, int kind) {
        return switch (kind) {
            case 0 -> shuffled(random, places, 0, places);
            case 1 -> fewExchanges(random, places);
            case 2 -> inBoxes(random, places, 2 + random.nextInt(2));
            default -> TableChain.behind(shuffled(random, places, 0, places / 3),
                shuffled(random, places, places / 3, places - 2));
        };
    }

    private static int[] shuffled(Random random, int places, int from, int to) {
        int[] row = new int[places];
        for (int p = 0; p < places; p++) {
            row[p] = p;
        }
        for (int p = to - 1; p > from; p--) {
            int q = from + random.nextInt(p - from + 1);
            int kept = row[p];
            row[p] = row[q];
            row[q] = kept;
        }
        return row;
    }

    private static int[] fewExchanges(Random random, int places) {
        int[] row = shuffled(random, places, 0, 1);
        for (int k = 0; k < 3; k++) {
            int p = random.nextInt(places);
            int q = random.nextInt(places);
            int kept = row[p];
            row[p] = row[q];
            row[q] = kept;
        }
        return row;
    }

    /** Puts whole boxes to boxes, and turns each by itself. */
    private static int[] inBoxes(Random random, int places, int size) {
        int boxes = places / size;
        int[] order = shuffled(random, boxes, 0, boxes);
        int[] row = shuffled(random, places, 0, 1);
        for (int box = 0; box < boxes; box++) {
            int turn = random.nextInt(size);
            for (int k = 0; k < size; k++) {
                row[box * size + k] = order[box] * size + (k + turn) % size;
            }
        }
        return row;
    }

    private static void compare(String head, int places, int[][] moves, Random random) {
        TableChain want = new TableChain(places, moves);
        CycleGroups x = made(moves);
        List<Integer> base = want.base();
        for (int i = 0; i < places; i++) {
            due.same(head + "spread(" + i + ")", x.spread(i), want.spread(i));
            due.same(head + "base(" + i + ")", x.base(i), i < base.size() ? base.get(i) : -1);
        }
        due.same(head + "run()", x.run(), base.size());
        due.sameText(head + "order", Due.orderText(x), want.order().toString());
        stabilisers(head, moves, want.order());
        blocks(head, moves);
        states(head, made(moves), want, places, random);
        states(head, made(moves), want, places, random);
    }

    /** A new object for each part of the questions, as an object is good for 512 calls. */
    private static CycleGroups made(int[][] moves) {
        CycleGroups x = new CycleGroups(moves[0].length);
        for (int[] move : moves) {
            Due.makeMove(x, move);
        }
        return x;
    }

    private static void stabilisers(String head, int[][] moves, BigInteger order) {
        for (int p = 0; p < moves[0].length; p++) {
            boolean[] reached = TableChain.reached(p, moves);
            CycleGroups x = made(moves);
            due.same(head + "orbit(" + p + ")", x.orbit(p), TableChain.least(reached));
            due.sameText(head + "stabiliser of " + p, Due.stabiliserText(x, p),
                order.divide(BigInteger.valueOf(TableChain.size(reached))).toString());
        }
    }

    private static void blocks(String head, int[][] moves) {
        CycleGroups x = made(moves);
        for (int a = 0; a < moves[0].length; a++) {
            for (int b = 0; b <= a; b++) {
                due.same(head + "block(" + a + ", " + b + ")", x.block(a, b),
                    TableChain.block(a, b, moves));
            }
        }
    }

    private static void states(String head, CycleGroups x, TableChain want, int places,
            Random random) {
        for (int s = 0; s < 10; s++) {
            x.state();
            x.scramble(s, random.nextLong(), random.nextInt(1001));
            for (int k = random.nextInt(3); k > 0; k--) {
                x.exchange(s, random.nextInt(places), random.nextInt(places));
            }
            int[] row = new int[places];
            for (int p = 0; p < places; p++) {
                row[p] = x.image(s, p);
            }
            int level = want.level(row);
            due.same(head + "level(" + s + ")", x.level(s), level);
            due.same(head + "member(" + s + ")", x.member(s), level == places ? 1 : 0);
        }
    }
}
