import java.math.BigDecimal;
import java.util.ArrayList;
import java.util.Comparator;
import java.util.List;
import java.util.TreeMap;
import java.util.TreeSet;

/**
 * The document said once more as a program, for the tests alone: it shares no idea of how the state is
 * held with the class it is compared with, and reckons with exact decimal numbers.
 */
final class PlainRanker {
    static final long NONE = -1000000000000000L;
    private static final BigDecimal UNIT = BigDecimal.valueOf(65536);

    private record Pair(int query, int document) implements Comparable<Pair> {
        @Override
        public int compareTo(Pair other) {
            return query != other.query ? Integer.compare(query, other.query) : Integer.compare(document, other.document);
        }
    }

    private static final class Entry {
        final int quality;
        final TreeMap<Integer, Integer> counts = new TreeMap<>();

        Entry(int quality) {
            this.quality = quality;
        }
    }

    private static final class Sample {
        final int[] features;
        BigDecimal rest;

        Sample(int[] features, int grade) {
            this.features = features;
            this.rest = BigDecimal.valueOf(grade);
        }
    }

    private sealed interface Tree permits Leaf, Split {
    }

    private record Leaf(BigDecimal value) implements Tree {
    }

    private record Split(int feature, int threshold, Tree first, Tree second) implements Tree {
    }

    private final TreeMap<Integer, Entry> documents = new TreeMap<>();
    private final TreeMap<Integer, TreeSet<Integer>> queries = new TreeMap<>();
    private final TreeMap<Pair, Integer> judgements = new TreeMap<>();
    private final List<Tree> trees = new ArrayList<>();
    private int depth = 8;

    PlainRanker() {
        for (int q = 0; q < 8; q++) {
            queries.put(q, new TreeSet<>());
        }
    }

    int document(int d, int quality) {
        if (d < 0 || d > 15 || quality < 0 || quality > 15) {
            return -1;
        }
        documents.put(d, new Entry(quality));
        return 0;
    }

    int remove(int d) {
        return documents.remove(d) == null ? -1 : 0;
    }

    int term(int d, int t, int count) {
        if (!documents.containsKey(d) || t < 0 || t > 11 || count < 0 || count > 15) {
            return -1;
        }
        documents.get(d).counts.put(t, count);
        return 0;
    }

    int query(int q, int mask) {
        if (!queries.containsKey(q) || mask < 0 || mask > 4095) {
            return -1;
        }
        TreeSet<Integer> terms = new TreeSet<>();
        for (int t = 0; t < 12; t++) {
            if (mask / (int) Math.pow(2, t) % 2 == 1) {
                terms.add(t);
            }
        }
        queries.put(q, terms);
        return 0;
    }

    int judge(int q, int d, int grade) {
        if (!queries.containsKey(q) || d < 0 || d > 15 || grade < -1 || grade > 7) {
            return -1;
        }
        Pair pair = new Pair(q, d);
        if (grade == -1) {
            judgements.remove(pair);
            return 0;
        }
        if (!judgements.containsKey(pair) && judgements.size() == 16) {
            return -2;
        }
        judgements.put(pair, grade);
        return 0;
    }

    int depth(int n) {
        if (n < 1 || n > 16) {
            return -1;
        }
        depth = n;
        return 0;
    }

    int train(int number, int height, int least) {
        if (number < 0 || number > 4 || height < 0 || height > 2 || least < 1 || least > 8) {
            return -1;
        }
        trees.clear();
        List<Sample> samples = new ArrayList<>();
        judgements.forEach((pair, grade) -> {
            if (documents.containsKey(pair.document)) {
                samples.add(new Sample(features(pair.query, pair.document), grade));
            }
        });
        for (int t = 0; t < number && !samples.isEmpty(); t++) {
            Tree tree = grow(samples, height, least);
            trees.add(tree);
            for (Sample sample : samples) {
                sample.rest = sample.rest.subtract(value(tree, sample.features));
            }
        }
        return trees.stream().mapToInt(PlainRanker::leaves).sum();
    }

    int feature(int q, int d, int f) {
        if (!queries.containsKey(q) || !documents.containsKey(d) || f < 0 || f > 4) {
            return -1;
        }
        return features(q, d)[f];
    }

    int ranked(int q, int i, boolean learned) {
        if (!queries.containsKey(q)) {
            return -1;
        }
        List<Integer> order = order(q, learned);
        return i >= 0 && i < order.size() ? order.get(i) : -1;
    }

    long score(int q, int d) {
        return queries.containsKey(q) && documents.containsKey(d) ? times65536(exactScore(q, d)) : NONE;
    }

    long merit(int q, boolean learned) {
        if (!queries.containsKey(q)) {
            return NONE;
        }
        BigDecimal sum = BigDecimal.ZERO;
        BigDecimal place = BigDecimal.ONE;
        for (int d : order(q, learned)) {
            Integer grade = judgements.get(new Pair(q, d));
            if (grade != null) {
                sum = sum.add(BigDecimal.valueOf(2).pow(grade).subtract(BigDecimal.ONE).divide(place));
            }
            place = place.add(place);
        }
        return times65536(sum);
    }

    long rest(int i) {
        List<Pair> pairs = new ArrayList<>(judgements.keySet());
        if (i < 0 || i >= pairs.size() || !documents.containsKey(pairs.get(i).document)) {
            return NONE;
        }
        Pair pair = pairs.get(i);
        return times65536(BigDecimal.valueOf(judgements.get(pair)).subtract(exactScore(pair.query, pair.document)));
    }

    long node(int t, int n, int what) {
        if (t < 0 || t >= trees.size() || n < 0 || what < 0 || what > 2) {
            return NONE;
        }
        Tree tree = find(trees.get(t), n);
        if (tree instanceof Leaf leaf) {
            return what == 2 ? times65536(leaf.value) : -1;
        }
        if (tree instanceof Split split) {
            return what == 0 ? split.feature : what == 1 ? split.threshold : NONE;
        }
        return NONE;
    }

    int count(int what) {
        if (what <= -1 && what >= -8) {
            return queries.get(-1 - what).size();
        }
        return switch (what) {
            case 0 -> documents.size();
            case 1 -> judgements.size();
            case 2 -> (int) judgements.keySet().stream().filter(pair -> documents.containsKey(pair.document)).count();
            case 3 -> trees.size();
            case 4 -> depth;
            case 5 -> trees.stream().mapToInt(tree -> leaves(tree) - 1).sum();
            case 1000 -> documents.keySet().stream().mapToInt(d -> features(0, d)[2]).sum();
            case 10000 -> judgements.values().stream().mapToInt(grade -> grade).sum();
            default -> -1000;
        };
    }

    private int[] features(int q, int d) {
        Entry entry = documents.get(d);
        List<Integer> had = new ArrayList<>();
        for (int t : queries.get(q)) {
            if (entry.counts.getOrDefault(t, 0) > 0) {
                had.add(entry.counts.get(t));
            }
        }
        int sum = had.stream().mapToInt(count -> count).sum();
        int size = entry.counts.values().stream().mapToInt(count -> count).sum();
        int greatest = had.stream().mapToInt(count -> count).max().orElse(0);
        return new int[] {had.size(), sum, size, entry.quality, greatest};
    }

    private List<Integer> order(int q, boolean learned) {
        List<Integer> order = new ArrayList<>();
        for (int d : documents.keySet()) {
            if (features(q, d)[0] > 0) {
                order.add(d);
            }
        }
        // Both sorts leave equal ones as they were: by number first, then as candidates.
        order.sort(Comparator.comparingInt((Integer d) -> plainScore(features(q, d))).reversed());
        order = new ArrayList<>(order.subList(0, Math.min(depth, order.size())));
        if (learned) {
            order.sort(Comparator.comparing((Integer d) -> exactScore(q, d)).reversed());
        }
        return order;
    }

    private static int plainScore(int[] features) {
        return 16 * features[1] + 4 * features[0] - features[2];
    }

    private BigDecimal exactScore(int q, int d) {
        BigDecimal sum = BigDecimal.ZERO;
        for (Tree tree : trees) {
            sum = sum.add(value(tree, features(q, d)));
        }
        return sum;
    }

    private static Tree grow(List<Sample> samples, int height, int least) {
        Split best = null;
        BigDecimal greatest = worth(samples);
        for (int f = 0; f < 5 && height > 0; f++) {
            TreeSet<Integer> thresholds = new TreeSet<>();
            for (Sample sample : samples) {
                thresholds.add(sample.features[f]);
            }
            for (int t : thresholds) {
                List<Sample> first = part(samples, f, t, true);
                List<Sample> second = part(samples, f, t, false);
                if (first.size() >= least && second.size() >= least) {
                    BigDecimal gain = worth(first).add(worth(second));
                    if (gain.compareTo(greatest) > 0) {
                        greatest = gain;
                        best = new Split(f, t, null, null);
                    }
                }
            }
        }
        if (best == null) {
            return new Leaf(sum(samples).divide(share(samples.size())));
        }
        Tree first = grow(part(samples, best.feature, best.threshold, true), height - 1, least);
        Tree second = grow(part(samples, best.feature, best.threshold, false), height - 1, least);
        return new Split(best.feature, best.threshold, first, second);
    }

    private static List<Sample> part(List<Sample> samples, int feature, int threshold, boolean first) {
        List<Sample> part = new ArrayList<>();
        for (Sample sample : samples) {
            if (sample.features[feature] <= threshold == first) {
                part.add(sample);
            }
        }
        return part;
    }

    private static BigDecimal sum(List<Sample> samples) {
        BigDecimal sum = BigDecimal.ZERO;
        for (Sample sample : samples) {
            sum = sum.add(sample.rest);
        }
        return sum;
    }

    private static BigDecimal worth(List<Sample> samples) {
        return sum(samples).pow(2).divide(share(samples.size()));
    }

    private static BigDecimal share(int m) {
        for (int power : new int[] {1, 2, 4, 8, 16}) {
            if (power >= m) {
                return BigDecimal.valueOf(power);
            }
        }
        throw new IllegalArgumentException("more samples than judgements");
    }

    private static BigDecimal value(Tree tree, int[] features) {
        if (tree instanceof Split split) {
            return value(features[split.feature] <= split.threshold ? split.first : split.second, features);
        }
        return ((Leaf) tree).value;
    }

    private static int leaves(Tree tree) {
        return tree instanceof Split split ? leaves(split.first) + leaves(split.second) : 1;
    }

    private static Tree find(Tree root, int n) {
        if (n == 0) {
            return root;
        }
        Tree above = find(root, (n - 1) / 2);
        if (above instanceof Split split) {
            return n % 2 == 1 ? split.first : split.second;
        }
        return null;
    }

    private static long times65536(BigDecimal number) {
        return number.multiply(UNIT).longValueExact();
    }
}
