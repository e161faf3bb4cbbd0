/**
 * The boundary cases of the document's section "Terms", and its limit of 512 calls: one method for each
 * sentence, in their order, with the sentence above it.
 */
public final class TermsEdgesTest {
    private static final long UNIT = 65536L;
    private static final long NONE = LearnedRanker.NONE;

    public static void main(String[] args) {
        the512thCall();
        noDocumentAtFirst();
        firstAndLastDocument();
        sizeOfNothingAndOfEverything();
        queriesEmptyAtFirst();
        emptyAndFullMask();
        countAboveZero();
        greatestIsZeroIfNone();
        plainScoreOfZeroAndBelow();
        featureZeroAboveZero();
        lesserNumberFirst();
        depthIsEightAtFirst();
        cutOffAmongEqualOnes();
        atMostOneJudgementOfBoth();
        sixteenInAll();
        numberedByQueryThenDocument();
        judgementsStayIfTheDocumentGoes();
        liveIfTheDocumentIsThere();
        treeThatIsALeaf();
        notAboveTheThreshold();
        shareOfEachNumber();
        growing();
        rankingAndMerit();
        Due.end();
    }

    private static void growing() {
        oldTreesGo();
        samplesAreLiveOnes();
        featuresNow();
        restIsTheGradeAtFirst();
        restIsLessenedAfterEachTree();
        withoutSamplesNoTree();
        heightZeroIsALeaf();
        noGoodSplitIsALeaf();
        bothPartsHaveTheLeastPart();
        leastPartBelowTheRoot();
        gainIsAbove();
        gainIsExact();
        thresholdsAreValues();
        greatestGainFirst();
        leastFeatureOfEqualGains();
        leastThresholdOfEqualGains();
        heightOneLess();
        scoreWithoutTrees();
        numbersAreWhole();
    }

    private static void rankingAndMerit() {
        rankingOfEqualScores();
        rankingOfScoresBelowZero();
        meritAtTheFirstAndLastPlace();
        meritOfUnjudgedOnes();
    }

    // "An object is used for at most 512 calls after it has been made"
    private static void the512thCall() {
        LearnedRanker x = new LearnedRanker();
        for (int call = 1; call < 512; call++) {
            Due.is("call " + call, x.depth(call % 16 + 1), LearnedRanker.DONE);
        }
        Due.is("the 512th call", x.count(4), 511 % 16 + 1);
    }

    // "a document is there or not; none is at first"
    private static void noDocumentAtFirst() {
        LearnedRanker x = new LearnedRanker();
        for (int d = 0; d < 16; d++) {
            Due.is("at first document " + d + " has no feature", x.feature(0, d, 3), -1);
            Due.is("at first document " + d + " is not removed", x.remove(d), -1);
        }
        Due.is("at first there is none", x.count(0), 0);
    }

    // "DOCUMENTS 0 .. 15"
    private static void firstAndLastDocument() {
        LearnedRanker x = new LearnedRanker();
        x.document(0, 4);
        Due.is("document 0 alone", x.count(0), 1);
        Due.is("15 isn't there yet", x.feature(0, 15, 3), -1);
        x.document(15, 6);
        Due.is("both", x.count(0), 2);
        Due.is("of 0", x.feature(0, 0, 3), 4);
        Due.is("of 15", x.feature(0, 15, 3), 6);
        for (int d = 0; d < 16; d++) {
            x.document(d, 15 - d);
        }
        Due.is("all 16", x.count(0), 16);
        for (int d = 0; d < 16; d++) {
            Due.is("quality of " + d, x.feature(0, d, 3), 15 - d);
        }
    }

    // "its SIZE is the sum of its counts"
    private static void sizeOfNothingAndOfEverything() {
        LearnedRanker x = new LearnedRanker();
        x.document(2, 15);
        Due.is("SIZE without terms", x.feature(0, 2, 2), 0);
        for (int t = 0; t < 12; t++) {
            x.term(2, t, 15);
            Due.is("SIZE with " + (t + 1) + " full terms", x.feature(0, 2, 2), 15 * (t + 1));
        }
        x.term(2, 11, 0);
        Due.is("SIZE without the last", x.feature(0, 2, 2), 165);
    }

    // "QUERIES 0 .. 7, each a set of TERMS (a mask 0 .. 4095), empty at first"
    private static void queriesEmptyAtFirst() {
        LearnedRanker x = new LearnedRanker();
        Make.put(x, 1, 0, 1, 1, 1, 1, 1, 1, 1, 1, 1, 1, 1, 1);
        for (int q = 0; q < 8; q++) {
            Due.is("query " + q + " at first", x.count(-1 - q), 0);
            Due.is("no TERM of query " + q, x.feature(q, 1, 0), 0);
            Due.is("no CANDIDATE of query " + q, x.ranked(q, 0, false), -1);
        }
    }

    private static void emptyAndFullMask() {
        LearnedRanker x = new LearnedRanker();
        Make.put(x, 1, 0, 1, 1, 1, 1, 1, 1, 1, 1, 1, 1, 1, 1);
        for (int t = 0; t < 12; t++) {
            x.query(7, 1 << t);
            x.term(1, t, 7);
            Due.is("TERM " + t + " alone", x.feature(7, 1, 1), 7);
            x.term(1, t, 1);
        }
        x.query(7, 4095);
        Due.is("all TERMS", x.feature(7, 1, 0), 12);
        Due.is("of query 7 alone", x.feature(6, 1, 0), 0);
        x.query(7, 0);
        Due.is("none again", x.feature(7, 1, 0), 0);
    }

    // "0 how many TERMS of the query the document has (count above 0)"
    private static void countAboveZero() {
        LearnedRanker x = new LearnedRanker();
        x.document(3, 0);
        x.query(1, 0b111);
        x.term(3, 0, 0);
        Due.is("a count of 0 is not had", x.feature(1, 3, 0), 0);
        x.term(3, 0, 1);
        Due.is("a count of 1 is", x.feature(1, 3, 0), 1);
        x.term(3, 1, 15);
        Due.is("15 is one more, not 15", x.feature(1, 3, 0), 2);
        x.term(3, 3, 9);
        Due.is("a TERM outside the query is not", x.feature(1, 3, 0), 2);
        x.term(3, 0, 0);
        Due.is("back to 0", x.feature(1, 3, 0), 1);
    }

    // "4 the greatest of its counts of those (0 if none)"
    private static void greatestIsZeroIfNone() {
        LearnedRanker x = new LearnedRanker();
        Make.put(x, 3, 9, 0, 15);
        x.query(1, 0b101);
        Due.is("none of the query's", x.feature(1, 3, 4), 0);
        Due.is("nor a sum", x.feature(1, 3, 1), 0);
        Due.is("an empty query", x.feature(0, 3, 4), 0);
        x.term(3, 2, 4);
        Due.is("15 is outside the query", x.feature(1, 3, 4), 4);
        x.term(3, 0, 6);
        Due.is("the greatest, not the last", x.feature(1, 3, 4), 6);
    }

    // "The PLAIN SCORE is 16 * FEATURE 1 + 4 * FEATURE 0 - FEATURE 2"
    private static void plainScoreOfZeroAndBelow() {
        LearnedRanker x = new LearnedRanker();
        x.query(0, 1);
        Make.put(x, 0, 0, 1, 15, 5);
        Make.put(x, 1, 0, 1, 15, 3);
        Make.put(x, 2, 0, 1, 15, 4);
        Due.order("PLAIN SCORES -1, 1, 0", x, 0, false, 1, 2, 0);
        LearnedRanker y = new LearnedRanker();
        y.query(0, 0b11);
        Make.put(y, 0, 0, 1, 1, 4);
        Make.put(y, 1, 0, 2);
        Make.put(y, 2, 0, 1, 1, 4);
        Make.put(y, 3, 0, 3, 0, 15);
        Make.put(y, 4, 0, 2);
        Due.order("PLAIN SCORES of 34, which other weights would tell apart", y, 0, false, 0, 1, 2, 3, 4);
    }

    // "CANDIDATES of a query: the documents that are there with a FEATURE 0 above 0"
    private static void featureZeroAboveZero() {
        LearnedRanker x = new LearnedRanker();
        x.query(0, 1);
        Make.put(x, 4, 15, 0, 15);
        x.document(5, 15);
        Due.order("none has a TERM of the query", x, 0, false);
        Due.order("nor is one ranked anew", x, 0, true);
        x.term(4, 0, 1);
        Due.order("one has", x, 0, false, 4);
        x.remove(4);
        Due.order("and is there no more", x, 0, false);
    }

    // "by falling PLAIN SCORE, of equal ones the lesser number first"
    private static void lesserNumberFirst() {
        LearnedRanker x = new LearnedRanker();
        x.query(0, 1);
        int[] made = {7, 15, 0, 3};
        for (int d : made) {
            Make.put(x, d, d, 2);
        }
        Due.order("whatever came first", x, 0, false, 0, 3, 7, 15);
        x.term(15, 0, 3);
        Due.order("a greater PLAIN SCORE comes before", x, 0, false, 15, 0, 3, 7);
    }

    // "cut off after DEPTH (8 at first)"
    private static void depthIsEightAtFirst() {
        LearnedRanker x = new LearnedRanker();
        x.query(0, 1);
        for (int d = 0; d < 7; d++) {
            Make.put(x, d, 0, 1);
        }
        Due.order("seven are all there", x, 0, false, 0, 1, 2, 3, 4, 5, 6);
        Make.put(x, 7, 0, 1);
        Due.order("so are eight", x, 0, false, 0, 1, 2, 3, 4, 5, 6, 7);
        Make.put(x, 8, 0, 1);
        Due.order("the ninth is cut off", x, 0, false, 0, 1, 2, 3, 4, 5, 6, 7);
        Due.order("and not ranked anew", x, 0, true, 0, 1, 2, 3, 4, 5, 6, 7);
        x.depth(9);
        Due.order("DEPTH 9", x, 0, true, 0, 1, 2, 3, 4, 5, 6, 7, 8);
        x.depth(16);
        Due.order("a DEPTH beyond them all", x, 0, false, 0, 1, 2, 3, 4, 5, 6, 7, 8);
    }

    private static void cutOffAmongEqualOnes() {
        LearnedRanker x = new LearnedRanker();
        x.query(0, 1);
        Make.put(x, 9, 0, 1);
        Make.put(x, 2, 0, 1);
        Make.put(x, 14, 0, 2);
        x.depth(2);
        Due.order("of the equal ones 9 goes", x, 0, false, 14, 2);
    }

    // "JUDGEMENTS: for a query and a document at most one, a GRADE 0 .. 7"
    private static void atMostOneJudgementOfBoth() {
        LearnedRanker x = new LearnedRanker();
        x.document(5, 0);
        x.judge(3, 5, 7);
        x.judge(3, 5, 0);
        Due.is("judged twice, it is one", x.count(1), 1);
        Due.is("with the last GRADE", x.count(10000), 0);
        Due.is("which is 0", x.rest(0), 0);
        Due.is("and no other", x.rest(1), NONE);
        x.judge(4, 5, 1);
        x.judge(3, 6, 2);
        Due.is("another query or document is another one", x.count(1), 3);
        Due.is("with GRADES of their own", x.count(10000), 3);
    }

    // "at most 16 in all"
    private static void sixteenInAll() {
        LearnedRanker x = new LearnedRanker();
        for (int i = 0; i < 15; i++) {
            x.judge(i / 2, i, 7);
        }
        Due.is("the 16th", x.judge(7, 15, 7), LearnedRanker.DONE);
        Due.is("16", x.count(1), 16);
        Due.is("the 17th", x.judge(7, 0, 7), LearnedRanker.FULL);
        Due.is("16 still", x.count(1), 16);
        Due.is("the sum of the GRADES", x.count(10000), 112);
    }

    // "They are numbered 0, 1, .. in order of queries, then documents."
    private static void numberedByQueryThenDocument() {
        LearnedRanker x = new LearnedRanker();
        x.document(0, 0);
        x.document(15, 0);
        x.judge(7, 15, 1);
        x.judge(7, 0, 2);
        x.judge(0, 15, 3);
        x.judge(0, 0, 4);
        long[] due = {4, 3, 2, 1};
        for (int i = 0; i < 4; i++) {
            Due.is("number " + i, x.rest(i), due[i] * UNIT);
        }
        Due.is("no number 4", x.rest(4), NONE);
        x.judge(0, 0, -1);
        Due.is("the first is taken away: the second is number 0", x.rest(0), 3 * UNIT);
        Due.is("and there is no number 3", x.rest(3), NONE);
    }

    // "They stay if the document goes"
    private static void judgementsStayIfTheDocumentGoes() {
        LearnedRanker x = Make.judged(new int[] {1, 2}, new int[] {3, 5});
        x.remove(0);
        x.remove(1);
        Due.is("both stay", x.count(1), 2);
        Due.is("with their GRADES", x.count(10000), 8);
        x.document(1, 9);
        Due.is("seen again as it was", x.rest(1), 5 * UNIT);
    }

    // "those of documents that are there are LIVE"
    private static void liveIfTheDocumentIsThere() {
        LearnedRanker x = new LearnedRanker();
        x.judge(0, 15, 0);
        x.judge(7, 15, 7);
        x.judge(0, 0, 1);
        Due.is("no document is there", x.count(2), 0);
        x.document(15, 0);
        Due.is("two of document 15", x.count(2), 2);
        x.document(0, 0);
        Due.is("all", x.count(2), 3);
        x.remove(15);
        Due.is("that of document 0", x.count(2), 1);
    }

    // "A TREE is a LEAF with a value, or a SPLIT"
    private static void treeThatIsALeaf() {
        LearnedRanker x = Make.judged(new int[] {9}, new int[] {6});
        Due.is("one sample: one LEAF", x.train(1, 2, 1), 1);
        Due.leaf("one sample", x, 0, 0, 6 * UNIT);
        Due.noNode("one sample", x, 0, 1);
        Due.noNode("one sample", x, 0, 2);
        x.document(4, 0);
        Due.is("its value is everyone's", x.score(3, 4), 6 * UNIT);
    }

    // "a FEATURE not above the threshold leads to the first, else to the second"
    private static void notAboveTheThreshold() {
        LearnedRanker x = Make.judged(new int[] {5, 9}, new int[] {1, 7});
        x.train(1, 1, 1);
        Due.split("by quality", x, 0, 0, 3, 5);
        int[] qualities = {0, 4, 5, 6, 9, 15};
        long[] due = {1, 1, 1, 7, 7, 7};
        for (int i = 0; i < qualities.length; i++) {
            x.document(2, qualities[i]);
            Due.is("quality " + qualities[i], x.score(0, 2), due[i] * UNIT);
        }
    }

    // "SHARE(m) for a number m above 0 is the least power of 2 that is m or more."
    private static void shareOfEachNumber() {
        int[] shares = {1, 2, 4, 4, 8, 8, 8, 8, 16, 16, 16, 16, 16, 16, 16, 16};
        for (int m = 1; m <= 16; m++) {
            int[] grades = new int[m];
            grades[m - 1] = 1;
            LearnedRanker x = Make.judged(new int[m], grades);
            x.train(1, 2, 1);
            Due.leaf("SHARE(" + m + ")", x, 0, 0, UNIT / shares[m - 1]);
        }
    }

    // "TRAINING ..: the old trees go."
    private static void oldTreesGo() {
        int[] qualities = {1, 2, 4, 8};
        int[] grades = {0, 2, 5, 7};
        LearnedRanker fewer = Make.judged(qualities, grades);
        fewer.train(4, 2, 1);
        Due.is("one LEAF", fewer.train(1, 0, 1), 1);
        Due.is("one tree", fewer.count(3), 1);
        Due.noNode("the nodes of the old one", fewer, 0, 1);
        Due.noNode("the old second tree", fewer, 1, 0);
        LearnedRanker none = Make.judged(qualities, grades);
        none.train(4, 2, 1);
        Due.is("no LEAF", none.train(0, 2, 1), 0);
        Due.is("no tree", none.count(3), 0);
        Due.is("no SPLIT", none.count(5), 0);
        Due.is("no SCORE", none.score(0, 3), 0);
    }

    // "The SAMPLES are the LIVE judgements"
    private static void samplesAreLiveOnes() {
        LearnedRanker x = Make.judged(new int[] {1, 2, 3}, new int[] {7, 1, 5});
        x.remove(0);
        x.train(1, 0, 1);
        Due.leaf("of the two that are LIVE", x, 0, 0, 3 * UNIT);
        x.query(5, 0);
        x.judge(5, 1, 7);
        x.train(1, 0, 1);
        Due.leaf("a document judged for two queries is two SAMPLES", x, 0, 0, 13 * UNIT / 4);
    }

    // "with their FEATURES now"
    private static void featuresNow() {
        LearnedRanker x = Make.judged(new int[] {1, 2}, new int[] {0, 7});
        x.document(0, 2);
        Due.is("no FEATURE tells them apart now", x.train(1, 2, 1), 1);
        x.term(1, 4, 1);
        Due.is("the SIZE does now", x.train(1, 2, 1), 2);
        Due.split("the SIZE", x, 0, 0, 2, 0);
        x.query(0, 1 << 4);
        x.train(1, 2, 1);
        Due.split("the TERMS of the query do now", x, 0, 0, 0, 0);
    }

    // "the REST of each is its GRADE at first"
    private static void restIsTheGradeAtFirst() {
        LearnedRanker x = Make.judged(new int[] {5, 5, 5}, new int[] {1, 2, 4});
        for (int training = 0; training < 3; training++) {
            x.train(2, 2, 1);
            Due.leaf("in each training anew", x, 0, 0, 7 * UNIT / 4);
            Due.leaf("in each training anew", x, 1, 0, 7 * UNIT / 16);
        }
    }

    // "after each, every SAMPLE's REST is lessened by the tree's value for it"
    private static void restIsLessenedAfterEachTree() {
        LearnedRanker x = Make.judged(new int[] {0, 0, 0, 1}, new int[] {6, 0, 0, 7});
        Due.is("five LEAVES", x.train(3, 1, 1), 5);
        Due.split("first tree", x, 0, 0, 3, 0);
        Due.leaf("first tree", x, 0, 1, 6 * UNIT / 4);
        Due.leaf("first tree", x, 0, 2, 7 * UNIT);
        Due.leaf("second tree, on 4.5, -1.5, -1.5, 0: 0.5625 is not above 0.5625", x, 1, 0, 3 * UNIT / 8);
        Due.split("third tree, on 4.125, -1.875, -1.875, -0.375", x, 2, 0, 3, 0);
        Due.leaf("third tree", x, 2, 1, 3 * UNIT / 32);
        Due.leaf("third tree", x, 2, 2, -3 * UNIT / 8);
        Due.is("what is left of the first", x.rest(0), 6 * UNIT - 6 * UNIT / 4 - 3 * UNIT / 8 - 3 * UNIT / 32);
        Due.is("what is left of the last", x.rest(3), 0);
    }

    // "Without SAMPLES no tree is grown."
    private static void withoutSamplesNoTree() {
        LearnedRanker x = new LearnedRanker();
        Due.is("without judgements", x.train(4, 2, 1), 0);
        Due.is("no tree", x.count(3), 0);
        Due.noNode("no tree", x, 0, 0);
        x.document(0, 1);
        x.judge(0, 1, 7);
        Due.is("without LIVE ones", x.train(4, 2, 1), 0);
        Due.is("no tree of those", x.count(3), 0);
        x.document(1, 1);
        Due.is("with one", x.train(4, 2, 1), 4);
        x.remove(1);
        Due.is("without LIVE ones again", x.train(4, 2, 1), 0);
        Due.is("the old trees are gone", x.count(3), 0);
    }

    // "If the height is 0 .. it's a LEAF with the value S / SHARE(m)."
    private static void heightZeroIsALeaf() {
        LearnedRanker x = Make.judged(new int[] {0, 15}, new int[] {0, 7});
        Due.is("however good a split would be", x.train(1, 0, 1), 1);
        Due.leaf("height 0", x, 0, 0, 7 * UNIT / 2);
        Due.noNode("height 0", x, 0, 1);
        Due.is("height 1", x.train(1, 1, 1), 2);
    }

    // "or there is no good split, it's a LEAF"
    private static void noGoodSplitIsALeaf() {
        LearnedRanker alike = Make.judged(new int[] {5, 5}, new int[] {0, 7});
        Due.is("one value of each FEATURE", alike.train(1, 2, 1), 1);
        Due.leaf("one value of each FEATURE", alike, 0, 0, 7 * UNIT / 2);
        LearnedRanker nothing = Make.judged(new int[] {1, 2}, new int[] {0, 0});
        Due.is("nothing to gain", nothing.train(1, 2, 1), 1);
        Due.leaf("nothing to gain", nothing, 0, 0, 0);
    }

    // "it's good if both have at least the least part"
    private static void bothPartsHaveTheLeastPart() {
        int[] qualities = {0, 1, 2, 3};
        LearnedRanker x = Make.judged(qualities, new int[] {7, 0, 0, 0});
        x.train(1, 1, 1);
        Due.split("least part 1, parts of 1 and 3", x, 0, 0, 3, 0);
        x.train(1, 1, 2);
        Due.split("least part 2, parts of 2 and 2", x, 0, 0, 3, 1);
        Due.is("least part 3 of four", x.train(1, 1, 3), 1);
        LearnedRanker y = Make.judged(qualities, new int[] {0, 0, 0, 7});
        y.train(1, 1, 1);
        Due.split("least part 1, parts of 3 and 1", y, 0, 0, 3, 2);
        y.train(1, 1, 2);
        Due.split("the second part is looked at too", y, 0, 0, 3, 1);
        int[] halves = {0, 0, 0, 0, 0, 0, 0, 0, 1, 1, 1, 1, 1, 1, 1, 1};
        LearnedRanker z = Make.judged(halves, new int[] {0, 0, 0, 0, 0, 0, 0, 0, 7, 7, 7, 7, 7, 7, 7, 7});
        Due.is("least part 8, parts of 8 and 8", z.train(1, 2, 8), 2);
        z.remove(15);
        Due.is("least part 8, parts of 8 and 7", z.train(1, 2, 8), 1);
        Due.is("least part 7, parts of 8 and 7", z.train(1, 2, 7), 2);
    }

    private static void leastPartBelowTheRoot() {
        LearnedRanker x = Make.judged(new int[] {1, 2, 4, 8}, new int[] {0, 2, 5, 7});
        Due.is("least part 1: both parts are split", x.train(1, 2, 1), 4);
        Due.is("least part 2: neither is", x.train(1, 2, 2), 2);
        Due.leaf("of the first two", x, 0, 1, UNIT);
        Due.leaf("of the last two", x, 0, 2, 6 * UNIT);
    }

    // "and its GAIN is above S * S / SHARE(m)"
    private static void gainIsAbove() {
        LearnedRanker equal = Make.judged(new int[] {1, 2}, new int[] {4, 4});
        Due.is("32 is not above 32", equal.train(1, 1, 1), 1);
        Due.leaf("32 is not above 32", equal, 0, 0, 4 * UNIT);
        LearnedRanker above = Make.judged(new int[] {1, 2}, new int[] {4, 5});
        Due.is("41 is above 40.5", above.train(1, 1, 1), 2);
        LearnedRanker three = Make.judged(new int[] {0, 1, 1}, new int[] {0, 0, 1});
        Due.is("0.5 is above 0.25", three.train(1, 1, 1), 2);
        Due.leaf("the two of 0.5", three, 0, 2, UNIT / 2);
    }

    // "the GAIN is the sum for both parts of their S * S / SHARE(m), exactly"
    private static void gainIsExact() {
        LearnedRanker x = Make.judged(new int[] {0, 0, 1, 1}, new int[] {0, 0, 1, 2});
        x.term(3, 0, 1);
        x.train(1, 1, 1);
        Due.split("4.5 by quality is more than 4.25 by SIZE", x, 0, 0, 3, 0);
    }

    // "The thresholds looked at are the values of the FEATURE among the SAMPLES."
    private static void thresholdsAreValues() {
        LearnedRanker x = Make.judged(new int[] {1, 15, 3, 12}, new int[] {0, 7, 0, 7});
        x.document(4, 7);
        x.train(1, 1, 1);
        Due.split("3, and not 7 of an unjudged one or the middle", x, 0, 0, 3, 3);
        LearnedRanker zero = Make.judged(new int[] {0, 15}, new int[] {0, 7});
        zero.train(1, 1, 1);
        Due.split("the least value there can be", zero, 0, 0, 3, 0);
        LearnedRanker great = Make.judged(new int[] {14, 15}, new int[] {0, 7});
        great.train(1, 1, 1);
        Due.split("the greatest that leaves a second part", great, 0, 0, 3, 14);
    }

    // "The good split with the greatest GAIN is taken"
    private static void greatestGainFirst() {
        LearnedRanker x = Make.judged(new int[] {0, 0, 9, 9}, new int[] {0, 1, 6, 7});
        x.term(1, 0, 1);
        x.term(3, 0, 1);
        x.train(1, 1, 1);
        Due.split("quality, though SIZE comes before it", x, 0, 0, 3, 0);
        LearnedRanker y = Make.judged(new int[] {0, 1, 2, 3}, new int[] {0, 0, 0, 7});
        y.train(1, 1, 1);
        Due.split("the last threshold, though others come before it", y, 0, 0, 3, 2);
    }

    // "of equal ones the least feature"
    private static void leastFeatureOfEqualGains() {
        LearnedRanker x = Make.judged(new int[] {0, 1}, new int[] {0, 7});
        x.train(1, 1, 1);
        Due.split("quality alone", x, 0, 0, 3, 0);
        x.term(1, 0, 1);
        x.train(1, 1, 1);
        Due.split("SIZE before quality", x, 0, 0, 2, 0);
        x.query(0, 1);
        x.train(1, 1, 1);
        Due.split("FEATURE 0 before all", x, 0, 0, 0, 0);
        x.term(0, 0, 2);
        x.train(1, 1, 1);
        Due.split("FEATURE 1, as FEATURE 0 is equal", x, 0, 0, 1, 1);
        LearnedRanker y = new LearnedRanker();
        y.query(0, 0b11);
        Make.put(y, 3, 4, 3, 1);
        Make.put(y, 4, 4, 2, 2);
        y.judge(0, 3, 0);
        y.judge(0, 4, 7);
        y.train(1, 1, 1);
        Due.split("FEATURE 4 alone", y, 0, 0, 4, 2);
        Due.leaf("the lesser of FEATURE 4", y, 0, 1, 7 * UNIT);
    }

    // "then the least threshold"
    private static void leastThresholdOfEqualGains() {
        LearnedRanker x = Make.judged(new int[] {3, 6, 9, 12}, new int[] {7, 0, 0, 7});
        x.train(1, 1, 1);
        Due.split("61.25 at 3 as at 9", x, 0, 0, 3, 3);
        LearnedRanker y = Make.judged(new int[] {12, 9, 6, 3}, new int[] {7, 0, 0, 7});
        y.train(1, 1, 1);
        Due.split("whichever SAMPLE comes first", y, 0, 0, 3, 3);
    }

    // "both parts are grown with a height one less"
    private static void heightOneLess() {
        int[] qualities = {1, 2, 3, 4, 5, 6, 7, 8};
        LearnedRanker x = Make.judged(qualities, new int[] {0, 1, 2, 3, 4, 5, 6, 7});
        Due.is("height 2 has four LEAVES at most", x.train(1, 2, 1), 4);
        for (int n = 3; n < 7; n++) {
            Due.is("LEAF " + n, x.node(0, n, 0), -1);
        }
        Due.noNode("none below those", x, 0, 7);
        Due.is("height 1 has two", x.train(1, 1, 1), 2);
        Due.is("LEAF 1", x.node(0, 1, 0), -1);
        Due.is("LEAF 2", x.node(0, 2, 0), -1);
        Due.noNode("none below those", x, 0, 3);
        LearnedRanker uneven = Make.judged(new int[] {0, 1, 2, 3}, new int[] {7, 0, 0, 7});
        Due.is("one part a LEAF, the other a SPLIT", uneven.train(1, 2, 1), 3);
        Due.leaf("the LEAF", uneven, 0, 1, 7 * UNIT);
        Due.split("the SPLIT", uneven, 0, 2, 3, 2);
        Due.noNode("below the LEAF", uneven, 0, 3);
        Due.noNode("below the LEAF", uneven, 0, 4);
    }

    // "The SCORE of FEATURES is the sum of the values of all trees, 0 without trees."
    private static void scoreWithoutTrees() {
        LearnedRanker x = Make.judged(new int[] {5, 5, 5}, new int[] {1, 2, 4});
        Due.is("before any training", x.score(0, 0), 0);
        long sum = 0;
        for (int trees = 0; trees <= 4; trees++) {
            x.train(trees, 2, 1);
            Due.is("of " + trees + " trees", x.score(0, 0), sum);
            sum += (7 * UNIT >> 2 * trees) / 4;
        }
    }

    // "asked for, they are given times 65536 (which makes them whole)"
    private static void numbersAreWhole() {
        int[] grades = new int[15];
        grades[0] = 1;
        LearnedRanker x = Make.judged(new int[15], grades);
        x.train(4, 2, 1);
        Due.leaf("1 / 16", x, 0, 0, 4096);
        Due.leaf("1 / 256", x, 1, 0, 256);
        Due.leaf("1 / 4096", x, 2, 0, 16);
        Due.leaf("1 / 65536", x, 3, 0, 1);
        Due.is("their sum", x.score(0, 0), 4369);
        Due.is("what is left of 1", x.rest(0), 61167);
        Due.is("what is left of 0", x.rest(14), -4369);
    }

    // "THE RANKING of a query: its CANDIDATES by falling SCORE, of equal ones those before as CANDIDATES first."
    private static void rankingOfEqualScores() {
        LearnedRanker x = Make.judged(new int[] {0, 1}, new int[] {1, 5});
        x.query(1, 1);
        for (int d = 2; d < 7; d++) {
            Make.put(x, d, d % 2, d);
        }
        Due.order("without trees all are equal", x, 1, true, 6, 5, 4, 3, 2);
        x.train(1, 1, 1);
        Due.order("the uneven ones before, each as they were", x, 1, true, 5, 3, 6, 4, 2);
        Due.order("the CANDIDATES are not changed", x, 1, false, 6, 5, 4, 3, 2);
        x.depth(1);
        Due.order("only the CANDIDATE is ranked anew", x, 1, true, 6);
    }

    // RESTS below 0 make values of later trees below 0, and so SCORES.
    private static void rankingOfScoresBelowZero() {
        LearnedRanker x = Make.judged(new int[] {0, 1, 0, 1}, new int[] {0, 0, 0, 7});
        int[] sizes = {5, 5, 6, 6};
        for (int d = 0; d < 4; d++) {
            x.term(d, 11, sizes[d]);
        }
        x.train(2, 1, 1);
        Due.split("first tree", x, 0, 0, 2, 5);
        Due.split("second tree, on 0, 0, -3.5, 3.5", x, 1, 0, 3, 0);
        Due.leaf("second tree", x, 1, 1, -7 * UNIT / 4);
        Due.is("0 - 1.75", x.score(0, 0), -7 * UNIT / 4);
        Due.is("the GRADE less that", x.rest(0), 7 * UNIT / 4);
        x.query(1, 1 << 11);
        Due.order("by PLAIN SCORE", x, 1, false, 2, 3, 0, 1);
        Due.order("5.25, 1.75, 1.75, -1.75", x, 1, true, 3, 2, 1, 0);
    }

    // "Its MERIT is the sum over places i (from 0) of (2^GRADE - 1) / 2^i"
    private static void meritAtTheFirstAndLastPlace() {
        LearnedRanker x = new LearnedRanker();
        x.query(0, 1);
        x.depth(16);
        for (int d = 0; d < 16; d++) {
            Make.put(x, d, 0, 1);
        }
        for (int d = 0; d < 16; d++) {
            x.judge(0, d, 1);
            Due.is("GRADE 1 at place " + d, x.merit(0, false), UNIT >> d);
            x.judge(0, d, 7);
            Due.is("GRADE 7 at place " + d, x.merit(0, true), 127 * (UNIT >> d));
            x.judge(0, d, 0);
            Due.is("GRADE 0 at place " + d, x.merit(0, false), 0);
            x.judge(0, d, -1);
        }
    }

    // "for judged documents there"
    private static void meritOfUnjudgedOnes() {
        LearnedRanker x = new LearnedRanker();
        x.query(0, 1);
        x.query(1, 1);
        Make.put(x, 0, 0, 3);
        Make.put(x, 1, 0, 2);
        Make.put(x, 2, 0, 1);
        Due.is("none is judged", x.merit(0, false), 0);
        x.judge(0, 2, 2);
        Due.is("the unjudged take their places", x.merit(0, false), 3 * UNIT / 4);
        x.judge(1, 0, 7);
        Due.is("judged for another query", x.merit(0, false), 3 * UNIT / 4);
        x.judge(0, 9, 7);
        Due.is("judged, but not there", x.merit(0, true), 3 * UNIT / 4);
        x.document(9, 15);
        Due.is("judged and there, but no CANDIDATE", x.merit(0, true), 3 * UNIT / 4);
        x.depth(2);
        Due.is("judged, but cut off", x.merit(0, true), 0);
    }
}
