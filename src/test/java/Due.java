/** What the tests share: counting the answers that are not as due, and making moves from rows. */
final class Due {
    /** A test takes a second at most; one that takes so long is held up by a call that does not end. */
    private static final long MOST_MILLISECONDS = 90_000;

    /** More digits than any number here has, so that a class that never answers -1 is found out. */
    private static final int MOST_DIGITS = 40;

    private int asked;
    private int wrong;
    private int tests;
    private String sentence = "";

    /** A test of its own for one sentence: what it finds is told with the sentence's words. */
    void test(String words, Runnable asking) {
        int askedBefore = asked;
        tests++;
        sentence = "[" + words + "] ";
        Thread watch = watch(words);
        try {
            asking.run();
        } catch (RuntimeException thrown) {
            // The class never throws; one that does fails this test, and the others still run.
            tellWrong("threw " + thrown);
        }
        watch.interrupt();
        if (asked == askedBefore) {
            tellWrong("asked nothing");
        }
        sentence = "";
    }

    private static Thread watch(String words) {
        Thread watch = new Thread(() -> {
            try {
                Thread.sleep(MOST_MILLISECONDS);
                System.out.println("[" + words + "] does not end");
                Runtime.getRuntime().halt(1);
            } catch (InterruptedException ended) {
                // The test has ended in time.
            }
        });
        watch.setDaemon(true);
        watch.start();
        return watch;
    }

    private void tellWrong(String text) {
        wrong++;
        System.out.println(sentence + text);
    }

    void same(String call, long got, long want) {
        asked++;
        if (got != want) {
            tellWrong(call + " answered " + got + ", due is " + want);
        }
    }

    void yes(String call, boolean got) {
        same(call, got ? 1 : 0, 1);
    }

    void no(String call, boolean got) {
        same(call, got ? 1 : 0, 0);
    }

    void end() {
        String own = tests > 0 ? tests + " tests, " : "";
        System.out.println(own + asked + " answers, " + wrong + " not as due");
        if (wrong != 0 || asked == 0) {
            System.exit(1);
        }
    }

    /** A new move that puts each place to where the row says, by calls of cycle. */
    static int makeMove(CycleGroups groups, int[] row) {
        int move = groups.move();
        boolean[] seen = new boolean[row.length];
        for (int start = 0; start < row.length; start++) {
            for (int at = start; !seen[at]; at = row[at]) {
                seen[at] = true;
                if (row[at] != start) {
                    groups.cycle(move, at, row[at]);
                }
            }
        }
        return move;
    }

    /** A new move that is the cycles given, one behind the other: each puts a place to the next. */
    static int makeCycles(CycleGroups groups, int[]... cycles) {
        int move = groups.move();
        for (int[] cycle : cycles) {
            for (int k = 0; k + 1 < cycle.length; k++) {
                groups.cycle(move, cycle[k], cycle[k + 1]);
            }
        }
        return move;
    }

    /** The answers of order, as one text, the highest digit first. */
    static String orderText(CycleGroups groups) {
        StringBuilder text = new StringBuilder();
        int digit = groups.order(0);
        for (int i = 1; i < MOST_DIGITS && digit >= 0; i++) {
            text.append(digit);
            digit = groups.order(i);
        }
        return text.reverse().toString();
    }

    /** The answers of stabiliser for a place, as one text, the highest digit first. */
    static String stabiliserText(CycleGroups groups, int place) {
        StringBuilder text = new StringBuilder();
        int digit = groups.stabiliser(place, 0);
        for (int i = 1; i < MOST_DIGITS && digit >= 0; i++) {
            text.append(digit);
            digit = groups.stabiliser(place, i);
        }
        return text.reverse().toString();
    }

    void sameText(String call, String got, String want) {
        asked++;
        if (!got.equals(want)) {
            tellWrong(call + " answered " + got + ", due is " + want);
        }
    }
}
