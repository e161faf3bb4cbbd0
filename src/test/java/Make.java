/** Makes objects and documents for the tests. */
final class Make {
    private Make() {
    }

    /** Document d with these counts of the terms 0, 1, .. */
    static void put(LearnedRanker x, int d, int quality, int... counts) {
        x.document(d, quality);
        for (int t = 0; t < counts.length; t++) {
            if (counts[t] > 0) {
                x.term(d, t, counts[t]);
            }
        }
    }

    /** Documents 0, 1, .. with these qualities and no terms, judged for query 0 with these grades. */
    static LearnedRanker judged(int[] qualities, int[] grades) {
        LearnedRanker x = new LearnedRanker();
        for (int d = 0; d < qualities.length; d++) {
            x.document(d, qualities[d]);
            x.judge(0, d, grades[d]);
        }
        return x;
    }
}
