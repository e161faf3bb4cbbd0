import java.util.Arrays;

/**
 * A search over small documents that ranks twice: by a plain score over an index of words, and anew
 * by a row of decision trees grown on judged answers.
 *
 * <p>Every exact number (values, rests, scores, merits) is held times UNIT. A training grows at most
 * four trees on at most 16 samples, and each tree divides by at most 16, so nothing finer than
 * 1 / 65536 ever comes up and all divisions below are exact.
 */
public final class LearnedRanker {
    public static final int DONE = 0;
    public static final int REFUSED = -1;
    public static final int FULL = -2;
    public static final long NONE = -1000000000000000L;

    private static final int DOCUMENTS = 16;
    private static final int TERMS = 12;
    private static final int QUERIES = 8;
    private static final int FEATURES = 5;
    private static final int GREATEST_QUALITY = 15;
    private static final int GREATEST_COUNT = 15;
    private static final int GREATEST_MASK = 4095;
    private static final int GREATEST_GRADE = 7;
    private static final int UNJUDGED = -1;
    private static final int MOST_JUDGEMENTS = 16;
    private static final int FIRST_DEPTH = 8;
    private static final int MOST_TREES = 4;
    private static final int GREATEST_HEIGHT = 2;
    private static final int GREATEST_LEAST_PART = 8;
    private static final int NODES = 7;
    private static final int LEAF = -1;
    private static final int ABSENT = -2;
    private static final int UNIT = 65536;
    private static final int UNKNOWN_COUNT = -1000;

    private final Shelf shelf = new Shelf();
    private final int[] masks = new int[QUERIES];
    private final Judgements judgements = new Judgements();
    private final Forest forest = new Forest();
    private final Grower grower = new Grower();
    private final Ranking candidates = new Ranking();
    private final Ranking reranked = new Ranking();
    private final int[] measured = new int[FEATURES];
    private int cutOff = FIRST_DEPTH;

    public LearnedRanker() {
    }

    public int document(int d, int quality) {
        if (!within(d, DOCUMENTS - 1) || !within(quality, GREATEST_QUALITY)) {
            return REFUSED;
        }
        shelf.put(d, quality);
        return DONE;
    }

    public int remove(int d) {
        if (!shelf.holds(d)) {
            return REFUSED;
        }
        shelf.drop(d);
        return DONE;
    }

    public int term(int d, int t, int count) {
        if (!shelf.holds(d) || !within(t, TERMS - 1) || !within(count, GREATEST_COUNT)) {
            return REFUSED;
        }
        shelf.setCount(d, t, count);
        return DONE;
    }

    public int query(int q, int mask) {
        if (!isQuery(q) || !within(mask, GREATEST_MASK)) {
            return REFUSED;
        }
        masks[q] = mask;
        return DONE;
    }

    public int judge(int q, int d, int grade) {
        boolean isGrade = grade == UNJUDGED || within(grade, GREATEST_GRADE);
        if (!isQuery(q) || !within(d, DOCUMENTS - 1) || !isGrade) {
            return REFUSED;
        }
        boolean isNew = grade != UNJUDGED && judgements.gradeOf(q, d) == UNJUDGED;
        if (isNew && judgements.number() >= MOST_JUDGEMENTS) {
            return FULL;
        }
        judgements.set(q, d, grade);
        return DONE;
    }

    public int depth(int n) {
        if (n < 1 || n > DOCUMENTS) {
            return REFUSED;
        }
        cutOff = n;
        return DONE;
    }

    public int train(int trees, int height, int least) {
        boolean isPart = least >= 1 && least <= GREATEST_LEAST_PART;
        if (!within(trees, MOST_TREES) || !within(height, GREATEST_HEIGHT) || !isPart) {
            return REFUSED;
        }
        forest.clear();
        gatherSamples();
        if (grower.hasSamples()) {
            for (int t = 0; t < trees; t++) {
                grower.grow(forest.nextTree(), height, least);
            }
        }
        return forest.leaves();
    }

    public int feature(int q, int d, int f) {
        if (!isQuery(q) || !shelf.holds(d) || !within(f, FEATURES - 1)) {
            return REFUSED;
        }
        shelf.measure(d, masks[q], measured);
        return measured[f];
    }

    public int ranked(int q, int i, boolean learned) {
        if (!isQuery(q)) {
            return REFUSED;
        }
        Ranking ranking = learned ? rankAnew(q) : pickCandidates(q);
        return within(i, ranking.length() - 1) ? ranking.documentAt(i) : REFUSED;
    }

    public long score(int q, int d) {
        if (!isQuery(q) || !shelf.holds(d)) {
            return NONE;
        }
        return scoreNow(q, d);
    }

    public long merit(int q, boolean learned) {
        if (!isQuery(q)) {
            return NONE;
        }
        Ranking ranking = learned ? rankAnew(q) : pickCandidates(q);
        long sum = 0;
        for (int i = 0; i < ranking.length(); i++) {
            int grade = judgements.gradeOf(q, ranking.documentAt(i));
            if (grade != UNJUDGED) {
                sum += ((1L << grade) - 1) * (UNIT >> i);
            }
        }
        return sum;
    }

    public long rest(int i) {
        int pair = judgements.pairOf(i);
        if (pair < 0) {
            return NONE;
        }
        int q = pair / DOCUMENTS;
        int d = pair % DOCUMENTS;
        if (!shelf.holds(d)) {
            return NONE;
        }
        return (long) UNIT * judgements.gradeOf(q, d) - scoreNow(q, d);
    }

    public long node(int t, int n, int what) {
        if (!within(t, forest.size() - 1) || !within(n, NODES - 1)) {
            return NONE;
        }
        Tree tree = forest.treeAt(t);
        if (tree.isAbsent(n)) {
            return NONE;
        }
        switch (what) {
            case 0:
                return tree.featureAt(n);
            case 1:
                return tree.thresholdAt(n);
            case 2:
                return tree.isLeaf(n) ? tree.valueAt(n) : NONE;
            default:
                return NONE;
        }
    }

    public int count(int what) {
        if (what < 0) {
            int q = -1 - what;
            return isQuery(q) ? Integer.bitCount(masks[q]) : UNKNOWN_COUNT;
        }
        switch (what) {
            case 0:
                return shelf.number();
            case 1:
                return judgements.number();
            case 2:
                return liveJudgements();
            case 3:
                return forest.size();
            case 4:
                return cutOff;
            case 5:
                return forest.splits();
            case 1000:
                return shelf.sumOfSizes();
            case 10000:
                return judgements.sumOfGrades();
            default:
                return UNKNOWN_COUNT;
        }
    }

    private static boolean within(int number, int greatest) {
        return number >= 0 && number <= greatest;
    }

    private static boolean isQuery(int q) {
        return within(q, QUERIES - 1);
    }

    private boolean isLive(int q, int d) {
        return judgements.gradeOf(q, d) != UNJUDGED && shelf.holds(d);
    }

    private int liveJudgements() {
        int live = 0;
        for (int q = 0; q < QUERIES; q++) {
            for (int d = 0; d < DOCUMENTS; d++) {
                if (isLive(q, d)) {
                    live++;
                }
            }
        }
        return live;
    }

    private void gatherSamples() {
        grower.clear();
        for (int q = 0; q < QUERIES; q++) {
            for (int d = 0; d < DOCUMENTS; d++) {
                if (isLive(q, d)) {
                    shelf.measure(d, masks[q], measured);
                    grower.addSample(measured, judgements.gradeOf(q, d));
                }
            }
        }
    }

    private long scoreNow(int q, int d) {
        shelf.measure(d, masks[q], measured);
        return forest.valueFor(measured);
    }

    private Ranking pickCandidates(int q) {
        candidates.clear();
        for (int d = 0; d < DOCUMENTS; d++) {
            if (shelf.holds(d)) {
                shelf.measure(d, masks[q], measured);
                if (measured[0] > 0) {
                    candidates.insert(d, 16 * measured[1] + 4 * measured[0] - measured[2]);
                }
            }
        }
        candidates.cutAfter(cutOff);
        return candidates;
    }

    private Ranking rankAnew(int q) {
        pickCandidates(q);
        reranked.clear();
        for (int i = 0; i < candidates.length(); i++) {
            int d = candidates.documentAt(i);
            reranked.insert(d, scoreNow(q, d));
        }
        return reranked;
    }

    /** The documents that are there, with their qualities and counts. */
    private static final class Shelf {
        private final boolean[] there = new boolean[DOCUMENTS];
        private final int[] qualities = new int[DOCUMENTS];
        private final int[][] counts = new int[DOCUMENTS][TERMS];

        boolean holds(int d) {
            return within(d, DOCUMENTS - 1) && there[d];
        }

        void put(int d, int quality) {
            there[d] = true;
            qualities[d] = quality;
            Arrays.fill(counts[d], 0);
        }

        void drop(int d) {
            there[d] = false;
        }

        void setCount(int d, int t, int count) {
            counts[d][t] = count;
        }

        int number() {
            int number = 0;
            for (int d = 0; d < DOCUMENTS; d++) {
                if (there[d]) {
                    number++;
                }
            }
            return number;
        }

        int sumOfSizes() {
            int sum = 0;
            for (int d = 0; d < DOCUMENTS; d++) {
                if (there[d]) {
                    sum += sizeOf(d);
                }
            }
            return sum;
        }

        /** Writes the features of document d for a query's mask into a row of the caller's. */
        void measure(int d, int mask, int[] features) {
            int had = 0;
            int sum = 0;
            int greatest = 0;
            for (int t = 0; t < TERMS; t++) {
                int count = counts[d][t];
                if (count > 0 && (mask >> t & 1) == 1) {
                    had++;
                    sum += count;
                    greatest = Math.max(greatest, count);
                }
            }
            features[0] = had;
            features[1] = sum;
            features[2] = sizeOf(d);
            features[3] = qualities[d];
            features[4] = greatest;
        }

        private int sizeOf(int d) {
            int size = 0;
            for (int t = 0; t < TERMS; t++) {
                size += counts[d][t];
            }
            return size;
        }
    }

    /** The grades, by query and then document: so the order of the pairs is that of their numbers. */
    private static final class Judgements {
        private final int[] grades = new int[QUERIES * DOCUMENTS];
        private int number = 0;

        Judgements() {
            Arrays.fill(grades, UNJUDGED);
        }

        int number() {
            return number;
        }

        int gradeOf(int q, int d) {
            return grades[q * DOCUMENTS + d];
        }

        void set(int q, int d, int grade) {
            int pair = q * DOCUMENTS + d;
            if (grades[pair] != UNJUDGED) {
                number--;
            }
            if (grade != UNJUDGED) {
                number++;
            }
            grades[pair] = grade;
        }

        /** The pair, query * DOCUMENTS + document, of judgement number i; -1 if there is none. */
        int pairOf(int i) {
            int before = 0;
            for (int pair = 0; pair < grades.length; pair++) {
                if (grades[pair] != UNJUDGED) {
                    if (before == i) {
                        return pair;
                    }
                    before++;
                }
            }
            return -1;
        }

        int sumOfGrades() {
            int sum = 0;
            for (int pair = 0; pair < grades.length; pair++) {
                if (grades[pair] != UNJUDGED) {
                    sum += grades[pair];
                }
            }
            return sum;
        }
    }

    /** Documents by falling key. */
    private static final class Ranking {
        private final int[] documents = new int[DOCUMENTS];
        private final long[] keys = new long[DOCUMENTS];
        private int length = 0;

        void clear() {
            length = 0;
        }

        int length() {
            return length;
        }

        int documentAt(int i) {
            return documents[i];
        }

        /** Places a document behind those of an equal key, so that the order of insertion breaks ties. */
        void insert(int d, long key) {
            if (length >= DOCUMENTS) {
                return;
            }
            int i = length;
            for (; i > 0 && keys[i - 1] < key; i--) {
                keys[i] = keys[i - 1];
                documents[i] = documents[i - 1];
            }
            keys[i] = key;
            documents[i] = d;
            length++;
        }

        void cutAfter(int places) {
            length = Math.min(length, places);
        }
    }

    /** A tree as a row of nodes: the parts of node n are nodes 2 n + 1 and 2 n + 2. */
    private static final class Tree {
        // A node's feature also tells its kind, as LEAF and ABSENT are no features.
        private final int[] features = new int[NODES];
        private final int[] thresholds = new int[NODES];
        private final long[] values = new long[NODES];

        void clear() {
            Arrays.fill(features, ABSENT);
        }

        void makeLeaf(int n, long value) {
            features[n] = LEAF;
            thresholds[n] = -1;
            values[n] = value;
        }

        void makeSplit(int n, int feature, int threshold) {
            features[n] = feature;
            thresholds[n] = threshold;
            values[n] = 0;
        }

        boolean isAbsent(int n) {
            return features[n] == ABSENT;
        }

        boolean isLeaf(int n) {
            return features[n] == LEAF;
        }

        boolean isSplit(int n) {
            return features[n] >= 0;
        }

        int leaves() {
            int number = 0;
            for (int n = 0; n < NODES; n++) {
                if (isLeaf(n)) {
                    number++;
                }
            }
            return number;
        }

        int splits() {
            int number = 0;
            for (int n = 0; n < NODES; n++) {
                if (isSplit(n)) {
                    number++;
                }
            }
            return number;
        }

        int featureAt(int n) {
            return features[n];
        }

        int thresholdAt(int n) {
            return thresholds[n];
        }

        long valueAt(int n) {
            return values[n];
        }

        /** The part of split n that the features lead to. */
        int partFor(int n, int[] measured) {
            return measured[features[n]] <= thresholds[n] ? 2 * n + 1 : 2 * n + 2;
        }

        long valueFor(int[] measured) {
            int n = 0;
            for (int level = 0; level < GREATEST_HEIGHT && isSplit(n); level++) {
                n = partFor(n, measured);
            }
            return values[n];
        }
    }

    /** The trees of the last training. */
    private static final class Forest {
        private final Tree[] trees = new Tree[MOST_TREES];
        private int size = 0;

        Forest() {
            for (int t = 0; t < MOST_TREES; t++) {
                trees[t] = new Tree();
            }
        }

        void clear() {
            size = 0;
        }

        int size() {
            return size;
        }

        Tree treeAt(int t) {
            return trees[t];
        }

        /** An empty tree behind the others; the training asks for MOST_TREES at most. */
        Tree nextTree() {
            Tree tree = trees[Math.min(size, MOST_TREES - 1)];
            size = Math.min(size + 1, MOST_TREES);
            tree.clear();
            return tree;
        }

        int leaves() {
            int number = 0;
            for (int t = 0; t < size; t++) {
                number += trees[t].leaves();
            }
            return number;
        }

        int splits() {
            int number = 0;
            for (int t = 0; t < size; t++) {
                number += trees[t].splits();
            }
            return number;
        }

        long valueFor(int[] measured) {
            long sum = 0;
            for (int t = 0; t < size; t++) {
                sum += trees[t].valueFor(measured);
            }
            return sum;
        }
    }

    /** The samples of a training, and the growing of one tree after another on their rests. */
    private static final class Grower {
        private final int[][] features = new int[MOST_JUDGEMENTS][FEATURES];
        private final long[] rests = new long[MOST_JUDGEMENTS];
        // For each feature the samples by its rising value: so one walk sees all its thresholds.
        private final int[][] orders = new int[FEATURES][MOST_JUDGEMENTS];
        private int samples = 0;
        // The node of the growing tree that each sample has come to.
        private final int[] nodes = new int[MOST_JUDGEMENTS];
        private int leastPart = 1;
        private long nodeSum = 0;
        private int nodeNumber = 0;
        private long bestGain = 0;
        private int bestFeature = 0;
        private int bestThreshold = 0;

        void clear() {
            samples = 0;
        }

        boolean hasSamples() {
            return samples > 0;
        }

        void addSample(int[] measured, int grade) {
            if (samples >= MOST_JUDGEMENTS) {
                return;
            }
            for (int f = 0; f < FEATURES; f++) {
                features[samples][f] = measured[f];
                insertInOrder(f, samples);
            }
            rests[samples] = (long) UNIT * grade;
            samples++;
        }

        private void insertInOrder(int f, int sample) {
            int[] order = orders[f];
            int i = samples;
            for (; i > 0 && features[order[i - 1]][f] > features[sample][f]; i--) {
                order[i] = order[i - 1];
            }
            order[i] = sample;
        }

        /** Grows an empty tree and lessens the rests by its values. */
        void grow(Tree tree, int height, int least) {
            leastPart = least;
            Arrays.fill(nodes, 0);
            // Nodes are numbered level by level, so those below this number have height left.
            int mayBeSplit = (1 << height) - 1;
            for (int n = 0; n < NODES; n++) {
                sumUp(n);
                if (nodeNumber > 0) {
                    if (n < mayBeSplit && findSplit(n)) {
                        tree.makeSplit(n, bestFeature, bestThreshold);
                        sendOn(tree, n);
                    } else {
                        tree.makeLeaf(n, nodeSum / share(nodeNumber));
                    }
                }
            }
            for (int s = 0; s < samples; s++) {
                rests[s] -= tree.valueFor(features[s]);
            }
        }

        private void sumUp(int n) {
            nodeSum = 0;
            nodeNumber = 0;
            for (int s = 0; s < samples; s++) {
                if (nodes[s] == n) {
                    nodeSum += rests[s];
                    nodeNumber++;
                }
            }
        }

        private void sendOn(Tree tree, int n) {
            for (int s = 0; s < samples; s++) {
                if (nodes[s] == n) {
                    nodes[s] = tree.partFor(n, features[s]);
                }
            }
        }

        private boolean findSplit(int n) {
            bestGain = worth(nodeSum, nodeNumber);
            bestFeature = LEAF;
            for (int f = 0; f < FEATURES; f++) {
                walkThresholds(n, f);
            }
            return bestFeature != LEAF;
        }

        private void walkThresholds(int n, int f) {
            long firstSum = 0;
            int firstNumber = 0;
            // No feature is below 0; if none is 0 either, the first part is empty and never good.
            int threshold = 0;
            for (int i = 0; i < samples; i++) {
                int s = orders[f][i];
                if (nodes[s] == n) {
                    if (features[s][f] > threshold) {
                        weighSplit(f, threshold, firstSum, firstNumber);
                        threshold = features[s][f];
                    }
                    firstSum += rests[s];
                    firstNumber++;
                }
            }
        }

        /** Keeps a split only if it gains more: splits come by rising feature and threshold. */
        private void weighSplit(int f, int threshold, long firstSum, int firstNumber) {
            int secondNumber = nodeNumber - firstNumber;
            if (firstNumber < leastPart || secondNumber < leastPart) {
                return;
            }
            long gain = worth(firstSum, firstNumber) + worth(nodeSum - firstSum, secondNumber);
            if (gain > bestGain) {
                bestGain = gain;
                bestFeature = f;
                bestThreshold = threshold;
            }
        }

        /** S * S / SHARE(m), times UNIT * UNIT, which leaves it whole and far within a long. */
        private static long worth(long sum, int number) {
            return sum * sum / share(number);
        }

        private static int share(int number) {
            int share = 1;
            while (share < number && share < MOST_JUDGEMENTS) {
                share *= 2;
            }
            return share;
        }
    }
}
