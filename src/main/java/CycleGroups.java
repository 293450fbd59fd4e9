import java.util.Arrays;

/**
 * Groups of moves that put places to places: the order, exact; which states can be reached, and at
 * which place it fails; orbits, blocks, stabilisers, parities, orders of states.
 *
 * <p>A move or a state is held as a row: the element at a place is the place to which it is put.
 */
public final class CycleGroups {
    private static final int MOST_PLACES = 24;
    private static final int MOST_MOVES = 10;
    private static final int MOST_STATES = 20;
    private static final int MOST_SCRAMBLES = 1000;
    private static final long SCRAMBLE_FACTOR = 6364136223846793005L;
    private static final long SCRAMBLE_ADDEND = 1442695040888963407L;
    private static final int UPPER_31_BITS = 33;

    private final int places;
    private final int[][] moves;
    private int movesMade;
    private final int[][] states;
    private int statesMade;
    private final Partition partition;
    private final Decimal decimal;
    private Chain chain;
    private boolean chainIsStale;

    public CycleGroups(int places) {
        this.places = Math.max(1, Math.min(MOST_PLACES, places));
        this.moves = new int[MOST_MOVES][this.places];
        this.states = new int[MOST_STATES][this.places];
        this.partition = new Partition(this.places);
        this.decimal = new Decimal();
    }

    public int move() {
        if (movesMade >= MOST_MOVES) {
            return -1;
        }
        leaveAll(moves[movesMade]);
        movesMade++;
        // No staleness: a move that leaves all places adds nothing to the group.
        return movesMade - 1;
    }

    public boolean cycle(int move, int from, int to) {
        if (!isMove(move) || !isPlace(from) || !isPlace(to) || from == to) {
            return false;
        }
        int[] row = moves[move];
        if (row[to] != to) {
            return false;
        }
        row[to] = row[from];
        row[from] = to;
        chainIsStale = true;
        return true;
    }

    public int run() {
        Chain fresh = freshChain();
        int count = 0;
        for (int i = 0; i < places; i++) {
            if (fresh.spreadSize(i) >= 2) {
                count++;
            }
        }
        return count;
    }

    public int base(int k) {
        Chain fresh = freshChain();
        int before = 0;
        for (int i = 0; i < places; i++) {
            if (fresh.spreadSize(i) >= 2) {
                if (before == k) {
                    return i;
                }
                before++;
            }
        }
        return -1;
    }

    public int spread(int place) {
        return isPlace(place) ? freshChain().spreadSize(place) : -1;
    }

    public int order(int i) {
        countGroup(freshChain());
        return decimal.digit(i);
    }

    public int stabiliser(int place, int i) {
        if (!isPlace(place)) {
            return -1;
        }
        partition.separate();
        partition.joinOrbits(moves, movesMade);
        countGroup(freshChain());
        // As many of the group put the place to one place of its orbit as to another.
        decimal.divide(partition.sizeWith(place));
        return decimal.digit(i);
    }

    public int orbit(int place) {
        if (!isPlace(place)) {
            return -1;
        }
        partition.separate();
        partition.joinOrbits(moves, movesMade);
        return partition.leastWith(place);
    }

    public int block(int a, int b) {
        if (!isPlace(a) || !isPlace(b)) {
            return -1;
        }
        partition.separate();
        partition.join(a, b);
        partition.joinImages(moves, movesMade);
        return partition.sizeWith(a);
    }

    public int state() {
        if (statesMade >= MOST_STATES) {
            return -1;
        }
        leaveAll(states[statesMade]);
        statesMade++;
        return statesMade - 1;
    }

    public boolean apply(int state, int move) {
        if (!isState(state) || !isMove(move)) {
            return false;
        }
        follow(states[state], moves[move]);
        return true;
    }

    public boolean exchange(int state, int a, int b) {
        if (!isState(state) || !isPlace(a) || !isPlace(b) || a == b) {
            return false;
        }
        int[] row = states[state];
        for (int p = 0; p < places; p++) {
            if (row[p] == a) {
                row[p] = b;
            } else if (row[p] == b) {
                row[p] = a;
            }
        }
        return true;
    }

    public boolean scramble(int state, long seed, int n) {
        if (!isState(state) || movesMade < 1 || n < 0 || n > MOST_SCRAMBLES) {
            return false;
        }
        long x = seed;
        for (int time = 0; time < n; time++) {
            x = SCRAMBLE_FACTOR * x + SCRAMBLE_ADDEND;
            int chosen = (int) ((x >>> UPPER_31_BITS) % movesMade);
            follow(states[state], moves[chosen]);
        }
        return true;
    }

    public int image(int state, int place) {
        return isState(state) && isPlace(place) ? states[state][place] : -1;
    }

    public int member(int state) {
        if (!isState(state)) {
            return -1;
        }
        return freshChain().failingPlace(states[state]) == places ? 1 : 0;
    }

    public int level(int state) {
        return isState(state) ? freshChain().failingPlace(states[state]) : -1;
    }

    public int parity(int state) {
        if (!isState(state)) {
            return -1;
        }
        int[] row = states[state];
        int inversions = 0;
        for (int p = 0; p < places; p++) {
            for (int q = p + 1; q < places; q++) {
                if (row[p] > row[q]) {
                    inversions++;
                }
            }
        }
        return inversions % 2;
    }

    public long times(int state) {
        if (!isState(state)) {
            return 0;
        }
        long common = 1;
        for (int p = 0; p < places; p++) {
            common = leastMultiple(common, returnTime(states[state], p));
        }
        return common;
    }

    private boolean isPlace(int place) {
        return place >= 0 && place < places;
    }

    private boolean isMove(int move) {
        return move >= 0 && move < movesMade;
    }

    private boolean isState(int state) {
        return state >= 0 && state < statesMade;
    }

    /** The chain of the moves as they are now; built only when asked for, as moves grow in many calls. */
    private Chain freshChain() {
        if (chain == null) {
            chain = new Chain(places);
            chainIsStale = true;
        }
        if (chainIsStale) {
            chain.build(moves, movesMade);
            chainIsStale = false;
        }
        return chain;
    }

    private void countGroup(Chain fresh) {
        decimal.setOne();
        for (int i = 0; i < places; i++) {
            decimal.multiply(fresh.spreadSize(i));
        }
    }

    private static void leaveAll(int[] row) {
        for (int p = 0; p < row.length; p++) {
            row[p] = p;
        }
    }

    private static void follow(int[] row, int[] next) {
        for (int p = 0; p < row.length; p++) {
            row[p] = next[row[p]];
        }
    }

    /** How many steps along the row lead from a place back to it. */
    private static int returnTime(int[] row, int start) {
        int at = row[start];
        int steps = 1;
        while (at != start && steps < row.length) {
            at = row[at];
            steps++;
        }
        return steps;
    }

    private static long leastMultiple(long a, int b) {
        if (b < 1) {
            return a;
        }
        for (int k = 1; k < b; k++) {
            if (a * k % b == 0) {
                return a * k;
            }
        }
        return a * b;
    }

    /** A number that is not negative, by its decimal digits, the lowest first: 24! passes 64 bits. */
    private static final class Decimal {
        private static final int DIGITS_OF_24_FACTORIAL = 24;

        private final int[] digits;

        Decimal() {
            digits = new int[DIGITS_OF_24_FACTORIAL];
        }

        void setOne() {
            Arrays.fill(digits, 0);
            digits[0] = 1;
        }

        void multiply(int factor) {
            int carry = 0;
            for (int d = 0; d < digits.length; d++) {
                int sum = digits[d] * factor + carry;
                digits[d] = sum % 10;
                carry = sum / 10;
            }
        }

        void divide(int divisor) {
            if (divisor < 1) {
                return;
            }
            int rest = 0;
            for (int d = digits.length - 1; d >= 0; d--) {
                int part = rest * 10 + digits[d];
                digits[d] = part / divisor;
                rest = part % divisor;
            }
        }

        /** The digit, or -1 when the number has none such. */
        int digit(int d) {
            return d >= 0 && d < length() ? digits[d] : -1;
        }

        private int length() {
            int length = digits.length;
            while (length > 1 && digits[length - 1] == 0) {
                length--;
            }
            return length;
        }
    }

    /** The places in sets that have no place in common, each set named by its least place. */
    private static final class Partition {
        private final int[] least;

        Partition(int places) {
            least = new int[places];
        }

        void separate() {
            leaveAll(least);
        }

        /** Makes one set of the sets of two places; false when they are in one already. */
        boolean join(int a, int b) {
            int low = Math.min(least[a], least[b]);
            int high = Math.max(least[a], least[b]);
            if (low == high) {
                return false;
            }
            for (int p = 0; p < least.length; p++) {
                if (least[p] == high) {
                    least[p] = low;
                }
            }
            return true;
        }

        void joinOrbits(int[][] moves, int count) {
            for (int m = 0; m < count; m++) {
                for (int p = 0; p < least.length; p++) {
                    join(p, moves[m][p]);
                }
            }
        }

        /** Joins until every move puts each set into one set. */
        void joinImages(int[][] moves, int count) {
            boolean joined = true;
            // Each round but the last one leaves a set less, so there are never more than places.
            for (int round = 0; joined && round < least.length; round++) {
                joined = false;
                for (int m = 0; m < count; m++) {
                    if (joinImagesOnce(moves[m])) {
                        joined = true;
                    }
                }
            }
        }

        private boolean joinImagesOnce(int[] move) {
            boolean joined = false;
            for (int p = 0; p < least.length; p++) {
                if (join(move[p], move[least[p]])) {
                    joined = true;
                }
            }
            return joined;
        }

        int leastWith(int place) {
            return least[place];
        }

        int sizeWith(int place) {
            int size = 0;
            for (int p = 0; p < least.length; p++) {
                if (least[p] == least[place]) {
                    size++;
                }
            }
            return size;
        }
    }

    /**
     * THE CHAIN by the way of Schreier and Sims: link i has rows that generate the i-th part of the
     * group and, for each place of the spread of i, a row of that part that brings it back to i.
     */
    private static final class Chain {
        /** Far above the some 10,000 steps that the pairs of 24 links can give. */
        private static final int MOST_STEPS = 1000000;

        private final int places;
        private final Link[] links;
        private final int[] work;

        Chain(int places) {
            this.places = places;
            this.links = new Link[places];
            this.work = new int[places];
            for (int i = 0; i < places; i++) {
                links[i] = new Link(i, places);
            }
        }

        void build(int[][] moves, int count) {
            for (int i = 0; i < places; i++) {
                links[i].clear();
            }
            for (int m = 0; m < count; m++) {
                if (failingPlace(moves[m]) < places) {
                    links[0].addGenerator(work);
                    complete();
                }
            }
        }

        int spreadSize(int i) {
            return links[i].spreadSize();
        }

        /** The first place at which a row leaves the chain; what is left of the row is in work. */
        int failingPlace(int[] row) {
            System.arraycopy(row, 0, work, 0, places);
            return siftWork(0);
        }

        /**
         * Undoes the work row by the links from a place on, and answers the first place at which it
         * leaves the spread; the number of places when there is none.
         */
        private int siftWork(int from) {
            for (int i = from; i < places; i++) {
                if (work[i] != i && !links[i].undo(work)) {
                    return i;
                }
            }
            return places;
        }

        private void complete() {
            int at = 0;
            for (int step = 0; at >= 0 && step < MOST_STEPS; step++) {
                at = advance(at);
            }
        }

        /**
         * Looks at one pair of a link and answers at which link to go on. A link is left upwards only
         * when all its pairs are done, so that sifting through the links below is always exact.
         */
        private int advance(int at) {
            Link link = links[at];
            int generator = link.openGenerator();
            if (generator < 0) {
                return at - 1;
            }
            if (link.reachesNewPlace(generator, work)) {
                return at;
            }
            int below = at + 1;
            if (below >= places || siftWork(below) >= places) {
                return at;
            }
            links[below].addGenerator(work);
            return below;
        }
    }

    /** One link of the chain; the places of its spread and their ways back stand in one order. */
    private static final class Link {
        private final int[][] generators;
        private int generatorsHeld;
        /** For each generator, with how many of the spread's places it has been paired. */
        private final int[] paired;
        private final int[] spreadPlaces;
        private int spreadHeld;
        private final int[] indexInSpread;
        private final int[][] waysBack;

        Link(int place, int places) {
            int free = places - place;
            // Each generator enlarges a group on the free places, and no chain of such groups, each
            // in the next, has more than 3/2 times as many steps as there are free places.
            int most = free * 3 / 2;
            generators = new int[most][places];
            paired = new int[most];
            spreadPlaces = new int[free];
            indexInSpread = new int[places];
            waysBack = new int[free][places];
            Arrays.fill(indexInSpread, -1);
            spreadPlaces[0] = place;
            indexInSpread[place] = 0;
            spreadHeld = 1;
            leaveAll(waysBack[0]);
        }

        void clear() {
            for (int s = 1; s < spreadHeld; s++) {
                indexInSpread[spreadPlaces[s]] = -1;
            }
            spreadHeld = 1;
            generatorsHeld = 0;
        }

        int spreadSize() {
            return spreadHeld;
        }

        /**
         * Brings the link's own place back, behind a row that leaves the places before it; false,
         * doing nothing, when the row puts it out of the spread.
         */
        boolean undo(int[] row) {
            int own = spreadPlaces[0];
            int index = indexInSpread[row[own]];
            if (index < 0) {
                return false;
            }
            int[] back = waysBack[index];
            // The places before are left by both rows.
            for (int p = own; p < row.length; p++) {
                row[p] = back[row[p]];
            }
            return true;
        }

        void addGenerator(int[] row) {
            if (generatorsHeld >= generators.length) {
                return;
            }
            System.arraycopy(row, 0, generators[generatorsHeld], 0, row.length);
            paired[generatorsHeld] = 0;
            generatorsHeld++;
        }

        /** A generator that has not been paired with all places of the spread; -1 without any. */
        int openGenerator() {
            for (int g = 0; g < generatorsHeld; g++) {
                if (paired[g] < spreadHeld) {
                    return g;
                }
            }
            return -1;
        }

        /**
         * Pairs an open generator with the next place of the spread. True when that widens the
         * spread; else the row is made that goes to the place, along the generator and back again.
         */
        boolean reachesNewPlace(int g, int[] round) {
            int[] generator = generators[g];
            int[] back = waysBack[paired[g]];
            int reached = generator[spreadPlaces[paired[g]]];
            paired[g]++;
            int index = indexInSpread[reached];
            if (index < 0) {
                widen(reached, generator, back);
                return true;
            }
            int[] backFromReached = waysBack[index];
            for (int p = 0; p < round.length; p++) {
                round[back[p]] = backFromReached[generator[p]];
            }
            return false;
        }

        private void widen(int reached, int[] generator, int[] back) {
            if (spreadHeld >= spreadPlaces.length) {
                return;
            }
            int[] row = waysBack[spreadHeld];
            for (int p = 0; p < row.length; p++) {
                row[generator[p]] = back[p];
            }
            spreadPlaces[spreadHeld] = reached;
            indexInSpread[reached] = spreadHeld;
            spreadHeld++;
        }
    }
}
