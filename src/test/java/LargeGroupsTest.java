import java.math.BigInteger;
import java.util.Random;

/**
 * Groups on up to 24 places against a chain made in another way: a table that has, for places i and
 * j, a row that leaves what is below i and puts i to j, filled until all products of two of its rows
 * can be undone by it.
 */
public final class LargeGroupsTest {
    private static final Due due = new Due();

    private final int places;
    private final int[][][] table;

    private LargeGroupsTest(int places) {
        this.places = places;
        this.table = new int[places][places][];
        for (int i = 0; i < places; i++) {
            int[] rest = new int[places];
            for (int p = 0; p < places; p++) {
                rest[p] = p;
            }
            table[i][i] = rest;
        }
    }

    public static void main(String[] args) {
        for (int seed = 0; seed < 60; seed++) {
            Random random = new Random(seed);
            int places = 7 + random.nextInt(18);
            int[][] moves = new int[1 + random.nextInt(5)][];
            int kind = seed % 4;
            for (int m = 0; m < moves.length; m++) {
                moves[m] = rowOfKind(random, places, kind);
            }
            compare("seed " + seed + ": ", places, moves, random);
        }
        due.end();
    }

    private static int[] rowOfKind(Random random, int places, int kind) {
        return switch (kind) {
            case 0 -> shuffled(random, places, 0, places);
            case 1 -> fewExchanges(random, places);
            case 2 -> inBoxes(random, places, 2 + random.nextInt(2));
            default -> behind(shuffled(random, places, 0, places / 3),
                shuffled(random, places, places / 3, places - 2));
        };
    }

    private static int[] shuffled(Random random, int places, int from, int to) {
        int[] row = new int[places];
        for (int p = 0; p < places; p++) {
            row[p] = p;
        }
        for (int p = to - 1; p > from; p--) {
            int q = from + random.nextInt(p - from + 1);
            int kept = row[p];
            row[p] = row[q];
            row[q] = kept;
        }
        return row;
    }

    private static int[] fewExchanges(Random random, int places) {
        int[] row = shuffled(random, places, 0, 1);
        for (int k = 0; k < 3; k++) {
            int p = random.nextInt(places);
            int q = random.nextInt(places);
            int kept = row[p];
            row[p] = row[q];
            row[q] = kept;
        }
        return row;
    }

    /** Puts whole boxes to boxes, and turns each by itself. */
    private static int[] inBoxes(Random random, int places, int size) {
        int boxes = places / size;
        int[] order = shuffled(random, boxes, 0, boxes);
        int[] row = shuffled(random, places, 0, 1);
        for (int box = 0; box < boxes; box++) {
            int turn = random.nextInt(size);
            for (int k = 0; k < size; k++) {
                row[box * size + k] = order[box] * size + (k + turn) % size;
            }
        }
        return row;
    }

    private static int[] behind(int[] first, int[] second) {
        int[] both = new int[first.length];
        for (int p = 0; p < both.length; p++) {
            both[p] = second[first[p]];
        }
        return both;
    }

    /** Undoes the row by the table; the first place where that fails, with the rest kept if wished. */
    private int undo(int[] row, boolean keep) {
        int[] left = row;
        for (int i = 0; i < places; i++) {
            int[] entry = table[i][left[i]];
            if (entry == null) {
                if (keep) {
                    table[i][left[i]] = left;
                }
                return i;
            }
            int[] next = new int[places];
            int[] back = new int[places];
            for (int p = 0; p < places; p++) {
                back[entry[p]] = p;
            }
            for (int p = 0; p < places; p++) {
                next[p] = back[left[p]];
            }
            left = next;
        }
        return places;
    }

    private void fill(int[][] moves) {
        for (int[] move : moves) {
            undo(move, true);
        }
        boolean grew = true;
        while (grew) {
            grew = false;
            for (int a = 0; a < places * places; a++) {
                for (int b = 0; b < places * places; b++) {
                    int[] first = table[a / places][a % places];
                    int[] second = table[b / places][b % places];
                    if (first != null && second != null) {
                        grew |= undo(behind(first, second), true) < places;
                    }
                }
            }
        }
    }

    private int size(int i) {
        int size = 0;
        for (int[] row : table[i]) {
            size += row != null ? 1 : 0;
        }
        return size;
    }

    private static void compare(String head, int places, int[][] moves, Random random) {
        LargeGroupsTest want = new LargeGroupsTest(places);
        want.fill(moves);
        CycleGroups x = made(moves);
        BigInteger order = BigInteger.ONE;
        int run = 0;
        for (int i = 0; i < places; i++) {
            int size = want.size(i);
            due.same(head + "spread(" + i + ")", x.spread(i), size);
            if (size >= 2) {
                due.same(head + "base(" + run + ")", x.base(run), i);
                run++;
            }
            order = order.multiply(BigInteger.valueOf(size));
        }
        due.same(head + "run()", x.run(), run);
        due.same(head + "base(run)", x.base(run), -1);
        due.sameText(head + "order", Due.orderText(x), order.toString());
        stabilisers(head, moves, order);
        states(head, made(moves), want, random);
        states(head, made(moves), want, random);
    }

    /** A new object for each part of the questions, as an object is good for 512 calls. */
    private static CycleGroups made(int[][] moves) {
        CycleGroups x = new CycleGroups(moves[0].length);
        for (int[] move : moves) {
            Due.makeMove(x, move);
        }
        return x;
    }

    private static void stabilisers(String head, int[][] moves, BigInteger order) {
        int places = moves[0].length;
        for (int start = 0; start < places; start++) {
            boolean[] reached = new boolean[places];
            reached[start] = true;
            for (int round = 0; round < places; round++) {
                for (int[] move : moves) {
                    for (int p = 0; p < places; p++) {
                        reached[move[p]] |= reached[p];
                    }
                }
            }
            int size = 0;
            int least = places;
            for (int p = places - 1; p >= 0; p--) {
                size += reached[p] ? 1 : 0;
                least = reached[p] ? p : least;
            }
            CycleGroups x = made(moves);
            due.same(head + "orbit(" + start + ")", x.orbit(start), least);
            due.sameText(head + "stabiliser of " + start, Due.stabiliserText(x, start),
                order.divide(BigInteger.valueOf(size)).toString());
        }
    }

    private static void states(String head, CycleGroups x, LargeGroupsTest want, Random random) {
        for (int s = 0; s < 10; s++) {
            x.state();
            x.scramble(s, random.nextLong(), random.nextInt(1001));
            for (int k = random.nextInt(3); k > 0; k--) {
                x.exchange(s, random.nextInt(want.places), random.nextInt(want.places));
            }
            int[] row = new int[want.places];
            for (int p = 0; p < want.places; p++) {
                row[p] = x.image(s, p);
            }
            int level = want.undo(row, false);
            due.same(head + "level(" + s + ")", x.level(s), level);
            due.same(head + "member(" + s + ")", x.member(s), level == want.places ? 1 : 0);
        }
    }
}
