import java.util.ArrayList;
import java.util.Arrays;
import java.util.LinkedHashSet;
import java.util.List;
import java.util.Set;

/** The document's words taken one by one, for few places: the whole group is written out. */
final class SmallModel {
    private final int places;
    private final List<int[]> moves = new ArrayList<>();
    private final List<int[]> states = new ArrayList<>();
    private List<int[]> group;

    SmallModel(int places) {
        this.places = Math.max(1, Math.min(24, places));
    }

    int move() {
        group = null;
        return added(moves, 10);
    }

    int state() {
        return added(states, 20);
    }

    private int added(List<int[]> rows, int most) {
        if (rows.size() == most) {
            return -1;
        }
        rows.add(rest());
        return rows.size() - 1;
    }

    private int[] rest() {
        int[] row = new int[places];
        for (int p = 0; p < places; p++) {
            row[p] = p;
        }
        return row;
    }

    private boolean isPlace(int p) {
        return 0 <= p && p < places;
    }

    private static boolean has(List<int[]> rows, int k) {
        return 0 <= k && k < rows.size();
    }

    private static int[] behind(int[] first, int[] second) {
        int[] both = new int[first.length];
        for (int p = 0; p < both.length; p++) {
            both[p] = second[first[p]];
        }
        return both;
    }

    private static int[] undone(int[] row) {
        int[] back = new int[row.length];
        for (int p = 0; p < row.length; p++) {
            back[row[p]] = p;
        }
        return back;
    }

    private List<int[]> group() {
        if (group != null) {
            return group;
        }
        group = new ArrayList<>();
        Set<String> seen = new LinkedHashSet<>();
        group.add(rest());
        seen.add(Arrays.toString(rest()));
        for (int k = 0; k < group.size(); k++) {
            for (int[] move : moves) {
                int[] next = behind(group.get(k), move);
                if (seen.add(Arrays.toString(next))) {
                    group.add(next);
                }
            }
        }
        return group;
    }

    private List<int[]> part(int i) {
        List<int[]> part = new ArrayList<>();
        for (int[] g : group()) {
            boolean leaves = true;
            for (int p = 0; p < i; p++) {
                leaves &= g[p] == p;
            }
            if (leaves) {
                part.add(g);
            }
        }
        return part;
    }

    boolean cycle(int move, int from, int to) {
        if (!has(moves, move) || !isPlace(from) || !isPlace(to) || from == to
            || moves.get(move)[to] != to) {
            return false;
        }
        group = null;
        int[] row = moves.get(move).clone();
        row[from] = to;
        row[to] = moves.get(move)[from];
        moves.set(move, row);
        return true;
    }

    private List<Integer> theBase() {
        List<Integer> base = new ArrayList<>();
        for (int p = 0; p < places; p++) {
            if (spread(p) >= 2) {
                base.add(p);
            }
        }
        return base;
    }

    int run() {
        return theBase().size();
    }

    int base(int k) {
        List<Integer> base = theBase();
        return 0 <= k && k < base.size() ? base.get(k) : -1;
    }

    int spread(int place) {
        if (!isPlace(place)) {
            return -1;
        }
        Set<Integer> to = new LinkedHashSet<>();
        for (int[] g : part(place)) {
            to.add(g[place]);
        }
        return to.size();
    }

    private static int digit(int number, int i) {
        String text = Integer.toString(number);
        return 0 <= i && i < text.length() ? text.charAt(text.length() - 1 - i) - '0' : -1;
    }

    int order(int i) {
        return digit(group().size(), i);
    }

    int stabiliser(int place, int i) {
        if (!isPlace(place)) {
            return -1;
        }
        int leaving = 0;
        for (int[] g : group()) {
            leaving += g[place] == place ? 1 : 0;
        }
        return digit(leaving, i);
    }

    int orbit(int place) {
        if (!isPlace(place)) {
            return -1;
        }
        int least = place;
        for (int[] g : group()) {
            least = Math.min(least, g[place]);
        }
        return least;
    }

    int block(int a, int b) {
        if (!isPlace(a) || !isPlace(b)) {
            return -1;
        }
        int least = places;
        for (int set = 0; set < 1 << places; set++) {
            if ((set >> a & 1) == 1 && (set >> b & 1) == 1 && isBlock(set)) {
                least = Math.min(least, Integer.bitCount(set));
            }
        }
        return least;
    }

    private boolean isBlock(int set) {
        for (int[] g : group()) {
            int made = 0;
            for (int p = 0; p < places; p++) {
                made |= (set >> p & 1) << g[p];
            }
            if (made != set && (made & set) != 0) {
                return false;
            }
        }
        return true;
    }

    boolean apply(int state, int move) {
        if (!has(states, state) || !has(moves, move)) {
            return false;
        }
        states.set(state, behind(states.get(state), moves.get(move)));
        return true;
    }

    boolean exchange(int state, int a, int b) {
        if (!has(states, state) || !isPlace(a) || !isPlace(b) || a == b) {
            return false;
        }
        int[] swap = rest();
        swap[a] = b;
        swap[b] = a;
        states.set(state, behind(states.get(state), swap));
        return true;
    }

    boolean scramble(int state, long seed, int n) {
        if (!has(states, state) || moves.isEmpty() || n < 0 || n > 1000) {
            return false;
        }
        long x = seed;
        for (int k = 0; k < n; k++) {
            x = 6364136223846793005L * x + 1442695040888963407L;
            apply(state, (int) (Long.divideUnsigned(x, 1L << 33) % moves.size()));
        }
        return true;
    }

    int image(int state, int place) {
        return has(states, state) && isPlace(place) ? states.get(state)[place] : -1;
    }

    int member(int state) {
        if (!has(states, state)) {
            return -1;
        }
        for (int[] g : group()) {
            if (Arrays.equals(g, states.get(state))) {
                return 1;
            }
        }
        return 0;
    }

    int level(int state) {
        if (!has(states, state)) {
            return -1;
        }
        int[] row = states.get(state);
        for (int i = 0; i < places; i++) {
            int[] same = null;
            for (int[] g : part(i)) {
                if (g[i] == row[i]) {
                    same = g;
                }
            }
            if (same == null) {
                return i;
            }
            row = behind(row, undone(same));
        }
        return places;
    }

    int parity(int state) {
        if (!has(states, state)) {
            return -1;
        }
        int[] row = states.get(state).clone();
        int exchanges = 0;
        for (int p = 0; p < places; p++) {
            while (row[p] != p) {
                int q = row[p];
                row[p] = row[q];
                row[q] = q;
                exchanges++;
            }
        }
        return exchanges % 2;
    }

    long times(int state) {
        if (!has(states, state)) {
            return 0;
        }
        int[] row = states.get(state);
        int taken = 1;
        while (!Arrays.equals(row, rest())) {
            row = behind(row, states.get(state));
            taken++;
        }
        return taken;
    }
}
