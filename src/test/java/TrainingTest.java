/** Promises 8 and 14: train, node. */
public final class TrainingTest {
    private static final long UNIT = 65536L;
    private static final long NONE = LearnedRanker.NONE;

    public static void main(String[] args) {
        refusals();
        noTrees();
        leafOfThree();
        leafSharesOfAllNumbers();
        restsAreLeftToTheNextTree();
        leastFeatureOfEqualGains();
        leastThresholdOfEqualGains();
        equalGainIsNotGood();
        unevenSharesMakeEqualGradesSplit();
        leastPart();
        secondPartSplitsAlone();
        greatestGainWins();
        onlyLiveSamples();
        featuresAtTheTraining();
        oldTreesGo();
        nodeEdges();
        Due.end();
    }

    private static void refusals() {
        LearnedRanker x = Make.judged(new int[] {1, 2}, new int[] {3, 5});
        Due.is("train(2, 1, 1)", x.train(2, 1, 1), 3);
        int[][] wrong = {
            {-1, 1, 1}, {5, 1, 1}, {1, -1, 1}, {1, 3, 1}, {1, 1, 0}, {1, 1, 9}, {1, 1, -1},
            {Integer.MIN_VALUE, 1, 1}, {Integer.MAX_VALUE, 1, 1}, {1, Integer.MIN_VALUE, 1},
            {1, Integer.MAX_VALUE, 1}, {1, 1, Integer.MIN_VALUE}, {1, 1, Integer.MAX_VALUE}};
        for (int[] row : wrong) {
            String call = "train(" + row[0] + ", " + row[1] + ", " + row[2] + ")";
            Due.is(call, x.train(row[0], row[1], row[2]), -1);
        }
        Due.is("a refused call leaves the trees", x.count(3), 2);
        Due.is("and their splits", x.count(5), 1);
        Due.is("and the scores", x.score(0, 1), 5 * UNIT);
        Due.is("train(4, 2, 8)", x.train(4, 2, 8), 4);
        Due.is("train(0, 0, 1)", x.train(0, 0, 1), 0);
    }

    private static void noTrees() {
        LearnedRanker x = new LearnedRanker();
        Due.is("without samples", x.train(4, 2, 1), 0);
        Due.is("no tree is grown", x.count(3), 0);
        Due.noNode("without samples", x, 0, 0);
        x.judge(0, 0, 7);
        Due.is("without live samples", x.train(4, 2, 1), 0);
        Due.is("no tree is grown of those", x.count(3), 0);
        x.document(0, 0);
        Due.is("no trees asked for", x.train(0, 2, 1), 0);
        Due.is("no tree is grown then", x.count(3), 0);
        Due.is("score without trees", x.score(0, 0), 0);
    }

    private static void leafOfThree() {
        LearnedRanker x = Make.judged(new int[] {5, 5, 5}, new int[] {1, 2, 4});
        Due.is("no feature tells them apart", x.train(1, 2, 1), 1);
        Due.leaf("7 / 4", x, 0, 0, 7 * UNIT / 4);
        Due.is("rest of the first", x.rest(0), UNIT - 7 * UNIT / 4);
        Due.is("height 0", x.train(1, 0, 1), 1);
        Due.leaf("height 0", x, 0, 0, 7 * UNIT / 4);
    }

    private static void leafSharesOfAllNumbers() {
        int[] shares = {1, 2, 4, 4, 8, 8, 8, 8, 16, 16, 16, 16, 16, 16, 16, 16};
        LearnedRanker x = new LearnedRanker();
        for (int m = 1; m <= 16; m++) {
            x.document(m - 1, 0);
            x.judge(3, m - 1, 7);
            x.train(1, 0, 1);
            Due.leaf("SHARE(" + m + ")", x, 0, 0, 7 * m * UNIT / shares[m - 1]);
        }
    }

    private static void restsAreLeftToTheNextTree() {
        LearnedRanker x = Make.judged(new int[] {5, 5, 5}, new int[] {1, 2, 4});
        Due.is("four leaves", x.train(4, 2, 1), 4);
        long left = 7 * UNIT;
        for (int t = 0; t < 4; t++) {
            Due.leaf("a fourth of the sum, tree " + t, x, t, 0, left / 4);
            left = left - 3 * (left / 4);
        }
        Due.is("the score is the sum", x.score(0, 0), 7 * UNIT / 4 + 7 * UNIT / 16 + 7 * UNIT / 64 + 7 * UNIT / 256);
        LearnedRanker y = Make.judged(new int[16], new int[] {0, 0, 0, 0, 0, 0, 0, 0, 1, 0, 0, 0, 0, 0, 0, 0});
        y.judge(0, 0, -1);
        y.train(4, 2, 1);
        Due.leaf("15 of 16 leave a 16th each time: the finest value", y, 3, 0, 1);
    }

    private static void leastFeatureOfEqualGains() {
        LearnedRanker x = Make.judged(new int[] {0, 5}, new int[] {0, 6});
        x.query(0, 1);
        x.term(1, 0, 3);
        Due.is("all five features cut alike", x.train(1, 2, 1), 2);
        Due.split("least feature", x, 0, 0, 0, 0);
        Due.leaf("least feature", x, 0, 1, 0);
        Due.leaf("least feature", x, 0, 2, 6 * UNIT);
        x.term(0, 0, 1);
        Due.is("features 1 to 4 cut alike", x.train(1, 2, 1), 2);
        Due.split("next feature", x, 0, 0, 1, 1);
        x.query(0, 0);
        x.train(1, 2, 1);
        Due.split("features 2 and 3 cut alike", x, 0, 0, 2, 1);
        x.term(0, 4, 2);
        x.train(1, 2, 1);
        Due.split("feature 3 alone cuts", x, 0, 0, 3, 0);
        x.query(0, 1);
        x.document(0, 5);
        x.document(1, 5);
        x.query(0, 3);
        x.term(0, 0, 2);
        x.term(0, 1, 2);
        x.term(1, 0, 1);
        x.term(1, 1, 3);
        x.train(1, 2, 1);
        Due.split("feature 4 alone cuts", x, 0, 0, 4, 2);
    }

    private static void leastThresholdOfEqualGains() {
        LearnedRanker x = Make.judged(new int[] {3, 0, 2, 1}, new int[] {7, 7, 0, 0});
        Due.is("7, 0, 0, 7 at height 1", x.train(1, 1, 1), 2);
        Due.split("threshold 0, not 2", x, 0, 0, 3, 0);
        Due.leaf("the first", x, 0, 1, 7 * UNIT);
        Due.leaf("the other three", x, 0, 2, 7 * UNIT / 4);
        Due.noNode("height 1", x, 0, 3);
        Due.noNode("height 1", x, 0, 6);
        Due.is("7, 0, 0, 7 at height 2", x.train(1, 2, 1), 3);
        Due.split("the second part at height 2", x, 0, 2, 3, 2);
        Due.leaf("the middle", x, 0, 5, 0);
        Due.leaf("the last", x, 0, 6, 7 * UNIT);
        Due.noNode("the first part is a leaf", x, 0, 3);
        Due.noNode("the first part is a leaf", x, 0, 4);
        Due.is("splits", x.count(5), 2);
    }

    private static void equalGainIsNotGood() {
        LearnedRanker x = Make.judged(new int[] {1, 2}, new int[] {4, 4});
        Due.is("equal grades of two", x.train(1, 2, 1), 1);
        Due.leaf("equal grades of two", x, 0, 0, 4 * UNIT);
        LearnedRanker y = Make.judged(new int[] {1, 2, 3}, new int[] {0, 0, 0});
        Due.is("no grades at all", y.train(1, 2, 1), 1);
        LearnedRanker z = Make.judged(new int[] {0, 1, 2, 3}, new int[] {7, 0, 0, 7});
        Due.is("49 is not above 49", z.train(1, 1, 2), 1);
        Due.leaf("49 is not above 49", z, 0, 0, 7 * UNIT / 2);
    }

    private static void unevenSharesMakeEqualGradesSplit() {
        LearnedRanker x = Make.judged(new int[] {1, 2, 3}, new int[] {4, 4, 4});
        Due.is("equal grades of three", x.train(1, 1, 1), 2);
        Due.split("one and two, the least threshold", x, 0, 0, 3, 1);
        Due.leaf("the one", x, 0, 1, 4 * UNIT);
        Due.leaf("the two", x, 0, 2, 4 * UNIT);
    }

    private static void leastPart() {
        LearnedRanker x = Make.judged(new int[] {0, 1, 2, 3}, new int[] {7, 0, 0, 0});
        x.train(1, 1, 1);
        Due.split("least part 1", x, 0, 0, 3, 0);
        Due.is("least part 2 leaves 24.5 above 12.25", x.train(1, 1, 2), 2);
        Due.split("least part 2", x, 0, 0, 3, 1);
        Due.is("least part 3", x.train(1, 1, 3), 1);
        LearnedRanker y = Make.judged(new int[] {0, 1, 2, 3}, new int[] {0, 0, 0, 7});
        Due.is("the second part counts too", y.train(1, 1, 2), 2);
        Due.split("the second part counts too", y, 0, 0, 3, 1);
        int[] qualities = {0, 0, 0, 0, 0, 0, 0, 0, 1, 1, 1, 1, 1, 1, 1, 1};
        int[] grades = {0, 0, 0, 0, 0, 0, 0, 0, 7, 7, 7, 7, 7, 7, 7, 7};
        LearnedRanker z = Make.judged(qualities, grades);
        Due.is("two parts of eight", z.train(1, 2, 8), 2);
        z.judge(0, 0, -1);
        Due.is("seven are too few", z.train(1, 2, 8), 1);
    }

    private static void secondPartSplitsAlone() {
        LearnedRanker x = Make.judged(new int[] {1, 2, 4, 8}, new int[] {0, 2, 5, 7});
        Due.is("a full tree", x.train(1, 2, 1), 4);
        Due.split("root", x, 0, 0, 3, 2);
        Due.split("first part", x, 0, 1, 3, 1);
        Due.split("second part", x, 0, 2, 3, 4);
        long[] values = {0, 2, 5, 7};
        for (int n = 3; n < 7; n++) {
            Due.leaf("full tree", x, 0, n, values[n - 3] * UNIT);
        }
        Due.is("height 1 of it", x.train(1, 1, 1), 2);
        Due.leaf("height 1 of it", x, 0, 1, UNIT);
        Due.leaf("height 1 of it", x, 0, 2, 6 * UNIT);
    }

    private static void greatestGainWins() {
        LearnedRanker x = Make.judged(new int[] {0, 0, 9, 9}, new int[] {0, 1, 6, 7});
        x.term(1, 0, 1);
        x.term(3, 0, 1);
        Due.is("the size cuts too, but worse", x.train(1, 1, 1), 2);
        Due.split("quality gains more", x, 0, 0, 3, 0);
    }

    private static void onlyLiveSamples() {
        LearnedRanker x = Make.judged(new int[] {1, 2, 3}, new int[] {7, 1, 5});
        x.remove(0);
        x.train(1, 0, 1);
        Due.leaf("of two live samples", x, 0, 0, 3 * UNIT);
        x.document(0, 0);
        x.train(1, 0, 1);
        Due.leaf("of three", x, 0, 0, 13 * UNIT / 4);
    }

    private static void featuresAtTheTraining() {
        LearnedRanker x = Make.judged(new int[] {0, 0}, new int[] {2, 6});
        x.term(1, 3, 4);
        x.query(0, 8);
        x.train(1, 1, 1);
        x.query(0, 0);
        Due.split("trees stay as they were grown", x, 0, 0, 0, 0);
        Due.is("but the score is of the features now", x.score(0, 1), 2 * UNIT);
        x.train(1, 1, 1);
        Due.split("a new training sees the features now", x, 0, 0, 2, 0);
    }

    private static void oldTreesGo() {
        LearnedRanker x = Make.judged(new int[] {1, 2, 4, 8}, new int[] {0, 2, 5, 7});
        x.train(4, 2, 1);
        Due.is("four trees", x.count(3), 4);
        Due.is("one leaf", x.train(1, 0, 1), 1);
        Due.is("one tree", x.count(3), 1);
        Due.is("no splits", x.count(5), 0);
        Due.noNode("old nodes", x, 0, 1);
        Due.noNode("old nodes", x, 0, 6);
        Due.noNode("old trees", x, 1, 0);
        for (int d = 0; d < 4; d++) {
            x.judge(0, d, -1);
        }
        Due.is("without samples", x.train(4, 2, 1), 0);
        Due.is("the old tree goes", x.count(3), 0);
        Due.is("and its score", x.score(0, 0), 0);
    }

    private static void nodeEdges() {
        LearnedRanker x = Make.judged(new int[] {1, 2, 4, 8}, new int[] {0, 2, 5, 7});
        x.train(4, 2, 1);
        int[] noTrees = {-1, 4, Integer.MIN_VALUE, Integer.MAX_VALUE};
        for (int t : noTrees) {
            Due.noNode("tree", x, t, 0);
        }
        int[] noNodes = {-1, 7, 8, Integer.MIN_VALUE, Integer.MAX_VALUE};
        for (int n : noNodes) {
            Due.noNode("node", x, 0, n);
        }
        int[] noWhats = {-1, 3, Integer.MIN_VALUE, Integer.MAX_VALUE};
        for (int what : noWhats) {
            Due.is("node(0, 0, " + what + ")", x.node(0, 0, what), NONE);
            Due.is("node(0, 3, " + what + ")", x.node(0, 3, what), NONE);
        }
        Due.is("later trees are leaves of 0", x.node(3, 0, 2), 0);
    }
}
