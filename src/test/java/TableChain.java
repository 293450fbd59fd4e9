import java.math.BigInteger;
import java.util.ArrayList;
import java.util.List;

/**
 * A chain made in another way than the class's: a table that has, for places i and j, a row that leaves
 * what is below i and puts i to j, filled until all products of two of its rows can be undone by it.
 */
final class TableChain {
    private final int places;
    private final int[][][] table;
    private final List<int[]> rows = new ArrayList<>();

    TableChain(int places, int[]... moves) {
        this.places = places;
        this.table = new int[places][places][];
        for (int i = 0; i < places; i++) {
            table[i][i] = atRest(places);
        }
        for (int[] move : moves) {
            undo(move, true);
        }
        // A row may be added while the products are made, and is then paired with all the others.
        for (int a = 0; a < rows.size(); a++) {
            for (int b = 0; b <= a; b++) {
                undo(behind(rows.get(a), rows.get(b)), true);
                undo(behind(rows.get(b), rows.get(a)), true);
            }
        }
    }

    static int[] atRest(int places) {
        int[] row = new int[places];
        for (int p = 0; p < places; p++) {
            row[p] = p;
        }
        return row;
    }

    static int[] behind(int[] first, int[] second) {
        int[] both = new int[first.length];
        for (int p = 0; p < both.length; p++) {
            both[p] = second[first[p]];
        }
        return both;
    }

    private static int[] undone(int[] row) {
        int[] back = new int[row.length];
        for (int p = 0; p < row.length; p++) {
            back[row[p]] = p;
        }
        return back;
    }

    /** Undoes the row by the table; the first place where that fails, with the rest kept if wished. */
    private int undo(int[] row, boolean keep) {
        int[] left = row;
        for (int i = 0; i < places; i++) {
            int[] entry = table[i][left[i]];
            if (entry == null) {
                if (keep) {
                    table[i][left[i]] = left;
                    rows.add(left);
                }
                return i;
            }
            left = behind(left, undone(entry));
        }
        return places;
    }

    int level(int[] row) {
        return undo(row, false);
    }

    int spread(int i) {
        int size = 0;
        for (int[] row : table[i]) {
            size += row != null ? 1 : 0;
        }
        return size;
    }

    List<Integer> base() {
        List<Integer> base = new ArrayList<>();
        for (int i = 0; i < places; i++) {
            if (spread(i) >= 2) {
                base.add(i);
            }
        }
        return base;
    }

    BigInteger order() {
        BigInteger order = BigInteger.ONE;
        for (int i = 0; i < places; i++) {
            order = order.multiply(BigInteger.valueOf(spread(i)));
        }
        return order;
    }

    /** The places to which the moves, one behind the other, can bring a place. */
    static boolean[] reached(int start, int[]... moves) {
        boolean[] reached = new boolean[moves[0].length];
        reached[start] = true;
        for (int round = 0; round < reached.length; round++) {
            for (int[] move : moves) {
                for (int p = 0; p < reached.length; p++) {
                    reached[move[p]] |= reached[p];
                }
            }
        }
        return reached;
    }

    static int least(boolean[] set) {
        int p = 0;
        while (!set[p]) {
            p++;
        }
        return p;
    }

    static int size(boolean[] set) {
        int size = 0;
        for (boolean in : set) {
            size += in ? 1 : 0;
        }
        return size;
    }

    /** The least block of two places: where one gets from one of them along pairs that the two become. */
    static int block(int a, int b, int[]... moves) {
        int places = moves[0].length;
        boolean[][] pairs = new boolean[places][places];
        List<int[]> open = new ArrayList<>();
        pairs[a][b] = true;
        open.add(new int[] {a, b});
        for (int k = 0; k < open.size(); k++) {
            for (int[] move : moves) {
                int[] next = {move[open.get(k)[0]], move[open.get(k)[1]]};
                if (!pairs[next[0]][next[1]]) {
                    pairs[next[0]][next[1]] = true;
                    open.add(next);
                }
            }
        }
        boolean[] block = new boolean[places];
        block[a] = true;
        for (int round = 0; round < places; round++) {
            for (int[] pair : open) {
                block[pair[0]] |= block[pair[1]];
                block[pair[1]] |= block[pair[0]];
            }
        }
        return size(block);
    }
}
