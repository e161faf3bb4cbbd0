import java.util.Random;

/** All promises: long runs of calls, the same on every machine, with the answers of PlainRanker due. */
public final class RandomRunsTest {
    private static final int RUNS = 1500;
    private static final int CALLS = 512;
    private static final int MOST_PRINTED = 20;
    private static final int[] COUNTED = {
        0, 1, 2, 3, 4, 5, 1000, 10000, -1, -2, -3, -4, -5, -6, -7, -8, -9, 6, Integer.MIN_VALUE, Integer.MAX_VALUE};
    private static final int[] FAR = {Integer.MIN_VALUE, Integer.MAX_VALUE, -65536, 65536, -1000, 1000};

    private final Random random;
    private final int run;
    private final int greatestCount;
    private final int greatestQuality;
    private final int documents;
    private final LearnedRanker tested = new LearnedRanker();
    private final PlainRanker plain = new PlainRanker();

    private RandomRunsTest(int run) {
        this.run = run;
        random = new Random(run);
        // Few different numbers make equal scores and gains, many make deep trees.
        int[] greatest = {1, 2, 4, 15};
        greatestCount = greatest[random.nextInt(4)];
        greatestQuality = greatest[random.nextInt(4)];
        documents = 4 + random.nextInt(13);
    }

    public static void main(String[] args) {
        for (int run = 0; run < RUNS && Due.wrongAnswers() < MOST_PRINTED; run++) {
            new RandomRunsTest(run).all();
        }
        Due.end();
    }

    private void all() {
        for (int i = 0; i < CALLS && Due.wrongAnswers() < MOST_PRINTED; i++) {
            // The first calls fill the object, so that those behind them find something there.
            if (i < 120 || random.nextInt(5) == 0) {
                change();
            } else {
                ask();
            }
        }
    }

    private void change() {
        int kind = random.nextInt(40);
        if (kind < 7) {
            int d = near(documents - 1);
            int quality = near(greatestQuality);
            due("document(" + d + ", " + quality + ")", tested.document(d, quality), plain.document(d, quality));
        } else if (kind < 8) {
            int d = near(documents - 1);
            due("remove(" + d + ")", tested.remove(d), plain.remove(d));
        } else if (kind < 21) {
            int d = near(documents - 1);
            int t = near(11);
            int count = near(greatestCount);
            due("term(" + d + ", " + t + ", " + count + ")", tested.term(d, t, count), plain.term(d, t, count));
        } else if (kind < 25) {
            int q = near(7);
            int mask = near(4095);
            due("query(" + q + ", " + mask + ")", tested.query(q, mask), plain.query(q, mask));
        } else if (kind < 34) {
            int q = near(random.nextBoolean() ? 1 : 7);
            int d = near(documents - 1);
            int grade = random.nextInt(8) == 0 ? -1 : near(7);
            due("judge(" + q + ", " + d + ", " + grade + ")", tested.judge(q, d, grade), plain.judge(q, d, grade));
        } else if (kind < 36) {
            int n = near(16);
            due("depth(" + n + ")", tested.depth(n), plain.depth(n));
        } else {
            trainBoth();
        }
    }

    private void trainBoth() {
        int trees = near(4);
        int height = near(2);
        int least = random.nextInt(3) == 0 ? near(8) : 1 + random.nextInt(2);
        due("train(" + trees + ", " + height + ", " + least + ")",
                tested.train(trees, height, least), plain.train(trees, height, least));
    }

    private void ask() {
        int q = near(7);
        int d = near(documents - 1);
        int i = near(15);
        boolean learned = random.nextBoolean();
        switch (random.nextInt(7)) {
            case 0 -> {
                int f = near(4);
                due("feature(" + q + ", " + d + ", " + f + ")", tested.feature(q, d, f), plain.feature(q, d, f));
            }
            case 1 -> due("ranked(" + q + ", " + i + ", " + learned + ")",
                    tested.ranked(q, i, learned), plain.ranked(q, i, learned));
            case 2 -> due("score(" + q + ", " + d + ")", tested.score(q, d), plain.score(q, d));
            case 3 -> due("merit(" + q + ", " + learned + ")", tested.merit(q, learned), plain.merit(q, learned));
            case 4 -> due("rest(" + i + ")", tested.rest(i), plain.rest(i));
            case 5 -> {
                int t = near(3);
                int n = near(7);
                int what = near(2);
                due("node(" + t + ", " + n + ", " + what + ")", tested.node(t, n, what), plain.node(t, n, what));
            }
            default -> {
                int what = COUNTED[random.nextInt(COUNTED.length)];
                due("count(" + what + ")", tested.count(what), plain.count(what));
            }
        }
    }

    /** Mostly 0 .. greatest, now and then just outside, seldom far outside. */
    private int near(int greatest) {
        int kind = random.nextInt(60);
        if (kind == 0) {
            return FAR[random.nextInt(FAR.length)];
        }
        if (kind == 1) {
            return random.nextBoolean() ? -1 : greatest + 1;
        }
        return random.nextInt(greatest + 1);
    }

    private void due(String call, long got, long want) {
        Due.is("run " + run + ": " + call, got, want);
    }
}
