/** Compares answers with those that are due, and ends a test with exit code 1 if one was wrong. */
final class Due {
    private static int wrong = 0;
    private static int asked = 0;

    private Due() {
    }

    static void is(String call, long got, long want) {
        asked++;
        if (got != want) {
            wrong++;
            System.out.println(call + " answered " + got + ", due is " + want);
        }
    }

    static void holds(String what, boolean truth) {
        is(what, truth ? 1 : 0, 1);
    }

    /** The places of a query's CANDIDATES or RANKING, and that there is none behind the last. */
    static void order(String name, LearnedRanker x, int q, boolean learned, int... due) {
        for (int i = 0; i < due.length; i++) {
            is(name + ", place " + i, x.ranked(q, i, learned), due[i]);
        }
        is(name + ", no place " + due.length, x.ranked(q, due.length, learned), LearnedRanker.REFUSED);
    }

    static void leaf(String name, LearnedRanker x, int t, int n, long value) {
        is(name + ": feature of leaf " + n + " of tree " + t, x.node(t, n, 0), -1);
        is(name + ": threshold of leaf " + n + " of tree " + t, x.node(t, n, 1), -1);
        is(name + ": value of leaf " + n + " of tree " + t, x.node(t, n, 2), value);
    }

    static void split(String name, LearnedRanker x, int t, int n, int feature, int threshold) {
        is(name + ": feature of split " + n + " of tree " + t, x.node(t, n, 0), feature);
        is(name + ": threshold of split " + n + " of tree " + t, x.node(t, n, 1), threshold);
        is(name + ": value of split " + n + " of tree " + t, x.node(t, n, 2), LearnedRanker.NONE);
    }

    static void noNode(String name, LearnedRanker x, int t, int n) {
        for (int what = 0; what < 3; what++) {
            is(name + ": no node " + n + " of tree " + t, x.node(t, n, what), LearnedRanker.NONE);
        }
    }

    static int wrongAnswers() {
        return wrong;
    }

    static void end() {
        System.out.println(asked + " answers, " + wrong + " wrong");
        if (wrong != 0) {
            System.exit(1);
        }
    }
}
