import java.util.function.IntToLongFunction;

/** The boundary cases of promises 1 to 15: one method or more for each promise, in their order. */
public final class PromiseEdgesTest {
    private static final long UNIT = 65536L;
    private static final long NONE = LearnedRanker.NONE;
    private static final int REFUSED = LearnedRanker.REFUSED;
    private static final int FULL = LearnedRanker.FULL;
    private static final int DONE = LearnedRanker.DONE;

    public static void main(String[] args) {
        newObject();
        documentRanges();
        documentWhateverItWasBefore();
        removeRanges();
        removeOfWhatIsNotThere();
        termRanges();
        termOfADocumentThatIsNotThere();
        queryRanges();
        queryLeavesJudgements();
        judgeRanges();
        judgeTakesAway();
        judgeOfADocumentThatIsNotThere();
        judgeWhenFull();
        depthRange();
        trainRanges();
        trainAnswersLeaves();
        featureRanges();
        featureOfADocumentThatIsNotThere();
        rankedRanges();
        rankedWithoutSuchAPlace();
        scoreRanges();
        scoreOfADocumentThatIsNotThere();
        meritRange();
        restRange();
        restOfADocumentThatIsNotThere();
        restNow();
        nodeRanges();
        nodeOfLeafAndSplit();
        nodeOfNoTree();
        countOfNothingAndOfEverything();
        countOfAnotherWhat();
        Due.end();
    }

    /**
     * All of least .. greatest are taken, and nothing outside: neither their neighbours nor numbers that
     * come into the range if bits are cut off or a sign is lost. The call makes an object of its own.
     */
    private static void range(String call, int least, int greatest, long refused, IntToLongFunction answer) {
        for (int number = least; number <= greatest; number++) {
            long got = answer.applyAsLong(number);
            Due.holds(call + " takes " + number + ", answered " + got, got != refused);
        }
        int[] outside = {least - 1, least - 2, greatest + 1, greatest + 2, Integer.MIN_VALUE, Integer.MAX_VALUE};
        for (int number : outside) {
            Due.is(call + " with " + number, answer.applyAsLong(number), refused);
        }
        for (int bit = 1; bit < 32; bit++) {
            int far = greatest + (1 << bit);
            if (far < least || far > greatest) {
                Due.is(call + " with " + far, answer.applyAsLong(far), refused);
            }
            int below = least - (1 << bit);
            if (below < least || below > greatest) {
                Due.is(call + " with " + below, answer.applyAsLong(below), refused);
            }
        }
    }

    /** A range of a call that changes something: it answers DONE within, REFUSED outside. */
    private static void changes(String call, int least, int greatest, IntToLongFunction answer) {
        for (int number = least; number <= greatest; number++) {
            Due.is(call + " with " + number, answer.applyAsLong(number), DONE);
        }
        range(call, least, greatest, REFUSED, answer);
    }

    /** Every document is there with term 0, so that only the number asked for can be refused. */
    private static LearnedRanker everyDocument() {
        LearnedRanker x = new LearnedRanker();
        for (int d = 0; d < 16; d++) {
            Make.put(x, d, d, 1);
        }
        return x;
    }

    /** Four trees: the first full, the others a LEAF. */
    private static LearnedRanker fourTrees() {
        LearnedRanker x = Make.judged(new int[] {1, 2, 4, 8}, new int[] {0, 2, 5, 7});
        Due.is("four trees, one of them full", x.train(4, 2, 1), 7);
        return x;
    }

    // Promise 1: "No documents, judgements, trees; DEPTH 8."
    private static void newObject() {
        LearnedRanker x = new LearnedRanker();
        Due.is("new: documents", x.count(0), 0);
        Due.is("new: judgements", x.count(1), 0);
        Due.is("new: LIVE ones", x.count(2), 0);
        Due.is("new: trees", x.count(3), 0);
        Due.is("new: splits", x.count(5), 0);
        Due.is("new: sizes", x.count(1000), 0);
        Due.is("new: grades", x.count(10000), 0);
        Due.is("new: DEPTH", x.count(4), 8);
        Due.is("new: no judgement 0", x.rest(0), NONE);
        Due.is("new: no tree 0", x.node(0, 0, 0), NONE);
        LearnedRanker other = new LearnedRanker();
        other.document(0, 1);
        other.depth(3);
        Due.is("another object's documents are its own", x.count(0), 0);
        Due.is("another object's DEPTH is its own", x.count(4), 8);
    }

    // Promise 2: "Document d (0 .. 15) .. with the QUALITY (0 .. 15) ..: DONE; else REFUSED."
    private static void documentRanges() {
        changes("document(d, 0)", 0, 15, d -> new LearnedRanker().document(d, 0));
        changes("document(0, quality)", 0, 15, quality -> new LearnedRanker().document(0, quality));
        Due.is("the least of both", new LearnedRanker().document(0, 0), DONE);
        Due.is("the greatest of both", new LearnedRanker().document(15, 15), DONE);
        Due.is("both outside", new LearnedRanker().document(16, 16), REFUSED);
    }

    // Promise 2: "and no terms, whatever it was before"
    private static void documentWhateverItWasBefore() {
        LearnedRanker x = new LearnedRanker();
        x.query(0, 4095);
        for (int t = 0; t < 12; t++) {
            x.document(15, 3);
            x.term(15, t, 15);
            Due.is("it was there with TERM " + t, x.document(15, 4), DONE);
            Due.is("no TERM " + t, x.feature(0, 15, 2), 0);
        }
        Due.is("its new QUALITY", x.feature(0, 15, 3), 4);
        Due.is("it is one document", x.count(0), 1);
        x.term(15, 0, 7);
        x.remove(15);
        Due.is("it was there and went", x.document(15, 5), DONE);
        Due.is("no terms of before", x.feature(0, 15, 2), 0);
        Due.is("nor is it a CANDIDATE", x.ranked(0, 0, false), REFUSED);
        x.judge(0, 15, 6);
        x.document(15, 0);
        Due.is("its judgement stays", x.rest(0), 6 * UNIT);
        Due.is("other documents are as they were", x.remove(14), REFUSED);
    }

    // Promise 3: "The document is there no more: DONE"
    private static void removeRanges() {
        changes("remove(d)", 0, 15, d -> everyDocument().remove(d));
        LearnedRanker x = everyDocument();
        for (int d = 15; d >= 0; d--) {
            Due.is("remove(" + d + ")", x.remove(d), DONE);
            Due.is("so many are left", x.count(0), d);
            Due.is("it is there no more", x.feature(0, d, 3), REFUSED);
        }
    }

    // Promise 3: "it isn't there: REFUSED"
    private static void removeOfWhatIsNotThere() {
        LearnedRanker x = new LearnedRanker();
        Due.is("none was there ever", x.remove(0), REFUSED);
        x.document(0, 1);
        Due.is("another is there", x.remove(1), REFUSED);
        Due.is("it is", x.remove(0), DONE);
        Due.is("it is no more", x.remove(0), REFUSED);
        x.document(0, 1);
        Due.is("it is again", x.remove(0), DONE);
    }

    // Promise 4: "Sets the document's count (0 .. 15) of the TERM (0 .. 11): DONE. .. out of range: REFUSED."
    private static void termRanges() {
        changes("term(d, 0, 1)", 0, 15, d -> everyDocument().term(d, 0, 1));
        changes("term(0, t, 1)", 0, 11, t -> everyDocument().term(0, t, 1));
        changes("term(0, 0, count)", 0, 15, count -> everyDocument().term(0, 0, count));
        LearnedRanker x = new LearnedRanker();
        x.document(15, 0);
        x.query(0, 1 << 11);
        for (int count = 15; count >= 0; count--) {
            x.term(15, 11, count);
            Due.is("the count is " + count + ", whatever it was", x.feature(0, 15, 1), count);
        }
    }

    // Promise 4: "The document isn't there ..: REFUSED."
    private static void termOfADocumentThatIsNotThere() {
        LearnedRanker x = new LearnedRanker();
        Due.is("it was never there", x.term(3, 0, 5), REFUSED);
        x.document(3, 0);
        Due.is("nothing of that is kept", x.feature(0, 3, 2), 0);
        Due.is("it is there", x.term(3, 0, 5), DONE);
        x.remove(3);
        Due.is("it is there no more", x.term(3, 1, 5), REFUSED);
        Due.is("not even to set 0", x.term(3, 0, 0), REFUSED);
        Due.is("nor is it there by that", x.count(0), 0);
    }

    // Promise 5: "Sets the query (0 .. 7) to the TERMS of the mask (0 .. 4095), else REFUSED: DONE."
    private static void queryRanges() {
        changes("query(q, 1)", 0, 7, q -> new LearnedRanker().query(q, 1));
        changes("query(0, mask)", 0, 4095, mask -> new LearnedRanker().query(0, mask));
        LearnedRanker x = new LearnedRanker();
        x.query(7, 4095);
        Due.is("all TERMS", x.count(-8), 12);
        x.query(7, 1 << 11);
        Due.is("set, not added to", x.count(-8), 1);
        x.query(7, 0);
        Due.is("none", x.count(-8), 0);
    }

    // Promise 5: "Judgements stay."
    private static void queryLeavesJudgements() {
        LearnedRanker x = Make.judged(new int[] {1, 2}, new int[] {3, 5});
        x.query(0, 7);
        x.query(0, 0);
        Due.is("both stay", x.count(1), 2);
        Due.is("LIVE", x.count(2), 2);
        Due.is("the first GRADE", x.rest(0), 3 * UNIT);
        Due.is("the second", x.rest(1), 5 * UNIT);
    }

    // Promise 6: "query 0 .. 7, document 0 .. 15 .., GRADE 0 .. 7, or -1 ..; else REFUSED"
    private static void judgeRanges() {
        changes("judge(q, 0, 7)", 0, 7, q -> new LearnedRanker().judge(q, 0, 7));
        changes("judge(0, d, 7)", 0, 15, d -> new LearnedRanker().judge(0, d, 7));
        changes("judge(0, 0, grade)", -1, 7, grade -> new LearnedRanker().judge(0, 0, grade));
        changes("judge(q, 0, -1)", 0, 7, q -> new LearnedRanker().judge(q, 0, -1));
        changes("judge(0, d, -1)", 0, 15, d -> new LearnedRanker().judge(0, d, -1));
        LearnedRanker x = new LearnedRanker();
        Due.is("the least of all", x.judge(0, 0, 0), DONE);
        Due.is("the greatest of all", x.judge(7, 15, 7), DONE);
        Due.is("GRADE 0 is a judgement", x.count(1), 2);
    }

    // Promise 6: "or -1 to take the judgement away"
    private static void judgeTakesAway() {
        LearnedRanker x = Make.judged(new int[] {1, 2}, new int[] {0, 5});
        Due.is("one of GRADE 0", x.judge(0, 0, -1), DONE);
        Due.is("one is left", x.count(1), 1);
        Due.is("it is number 0 now", x.rest(0), 5 * UNIT);
        Due.is("there is none to take away", x.judge(0, 0, -1), DONE);
        Due.is("nor of another query", x.judge(7, 1, -1), DONE);
        Due.is("one is left still", x.count(1), 1);
        x.remove(1);
        Due.is("the last, of a document that went", x.judge(0, 1, -1), DONE);
        Due.is("none is left", x.count(1), 0);
        Due.is("no GRADES", x.count(10000), 0);
    }

    // Promise 6: "document 0 .. 15 (there or not)"
    private static void judgeOfADocumentThatIsNotThere() {
        LearnedRanker x = new LearnedRanker();
        for (int d = 0; d < 16; d++) {
            Due.is("document " + d + " isn't there", x.judge(3, d, 2), DONE);
        }
        Due.is("16 judgements", x.count(1), 16);
        Due.is("none is LIVE", x.count(2), 0);
        Due.is("no document is there by that", x.count(0), 0);
    }

    // Promise 6: "No judgement of both is there, it isn't -1, and there are 16: FULL."
    private static void judgeWhenFull() {
        LearnedRanker x = new LearnedRanker();
        for (int i = 0; i < 16; i++) {
            x.judge(7, i, 1);
        }
        Due.is("none of both", x.judge(0, 0, 1), FULL);
        Due.is("none of both, GRADE 0", x.judge(6, 15, 0), FULL);
        Due.is("one of both is there", x.judge(7, 15, 0), DONE);
        Due.is("it is -1", x.judge(0, 0, -1), DONE);
        Due.is("out of range comes first: query", x.judge(8, 0, 1), REFUSED);
        Due.is("out of range comes first: document", x.judge(0, 16, 1), REFUSED);
        Due.is("out of range comes first: GRADE", x.judge(0, 0, 8), REFUSED);
        Due.is("out of range comes first: GRADE below -1", x.judge(0, 0, -2), REFUSED);
        Due.is("16", x.count(1), 16);
        Due.is("their GRADES", x.count(10000), 15);
        Due.is("one goes", x.judge(7, 0, -1), DONE);
        Due.is("there are 15: one more", x.judge(0, 0, 1), DONE);
        Due.is("and 16 again", x.judge(7, 0, 1), FULL);
    }

    // Promise 7: "DEPTH becomes n (1 .. 16, else REFUSED): DONE."
    private static void depthRange() {
        changes("depth(n)", 1, 16, n -> new LearnedRanker().depth(n));
        LearnedRanker x = everyDocument();
        x.query(0, 1);
        for (int n = 1; n <= 16; n++) {
            Due.is("depth(" + n + ")", x.depth(n), DONE);
            Due.is("it becomes " + n, x.count(4), n);
            Due.is("the last place", x.ranked(0, n - 1, false), n - 1);
            Due.is("none behind it", x.ranked(0, n, false), REFUSED);
            Due.is("none behind it anew", x.ranked(0, n, true), REFUSED);
        }
    }

    // Promise 8: "so many trees (0 .. 4), a height (0 .. 2) and a least part (1 .. 8), else REFUSED"
    private static void trainRanges() {
        range("train(trees, 0, 1)", 0, 4, REFUSED, trees -> new LearnedRanker().train(trees, 0, 1));
        range("train(0, height, 1)", 0, 2, REFUSED, height -> new LearnedRanker().train(0, height, 1));
        range("train(0, 0, least)", 1, 8, REFUSED, least -> new LearnedRanker().train(0, 0, least));
        range("train(trees, 2, 8) of four", 0, 4, REFUSED, trees -> fourTrees().train(trees, 2, 8));
        LearnedRanker x = fourTrees();
        for (int trees = 0; trees <= 4; trees++) {
            x.train(trees, 2, 1);
            Due.is("so many trees", x.count(3), trees);
        }
    }

    // Promise 8: "Answers how many LEAVES all trees have."
    private static void trainAnswersLeaves() {
        LearnedRanker x = Make.judged(new int[] {1, 2, 4, 8}, new int[] {0, 2, 5, 7});
        Due.is("no tree", x.train(0, 2, 1), 0);
        Due.is("height 0", x.train(1, 0, 1), 1);
        Due.is("height 1", x.train(1, 1, 1), 2);
        Due.is("height 2", x.train(1, 2, 1), 4);
        Due.is("four trees of height 0", x.train(4, 0, 1), 4);
        Due.is("a full tree and three LEAVES", x.train(4, 2, 1), 7);
        Due.is("without SAMPLES", new LearnedRanker().train(4, 2, 8), 0);
    }

    // Promise 9: "FEATURE f (0 .. 4) of the query and document; REFUSED if out of range"
    private static void featureRanges() {
        range("feature(q, 0, 3)", 0, 7, REFUSED, q -> everyDocument().feature(q, 0, 3));
        range("feature(0, d, 3)", 0, 15, REFUSED, d -> everyDocument().feature(0, d, 3));
        range("feature(0, 0, f)", 0, 4, REFUSED, f -> everyDocument().feature(0, 0, f));
        LearnedRanker x = new LearnedRanker();
        x.query(7, 4095);
        Make.put(x, 15, 15, 15, 15, 15, 15, 15, 15, 15, 15, 15, 15, 15, 15);
        int[] greatest = {12, 180, 180, 15, 15};
        for (int f = 0; f < 5; f++) {
            Due.is("the greatest FEATURE " + f, x.feature(7, 15, f), greatest[f]);
        }
        x.document(15, 0);
        for (int f = 0; f < 5; f++) {
            Due.is("the least FEATURE " + f, x.feature(7, 15, f), 0);
        }
    }

    // Promise 9: "or it isn't there"
    private static void featureOfADocumentThatIsNotThere() {
        LearnedRanker x = new LearnedRanker();
        Make.put(x, 4, 3, 2);
        for (int f = 0; f < 5; f++) {
            Due.is("never there, FEATURE " + f, x.feature(0, 5, f), REFUSED);
        }
        x.remove(4);
        for (int f = 0; f < 5; f++) {
            Due.is("no more there, FEATURE " + f, x.feature(0, 4, f), REFUSED);
        }
    }

    // Promise 10: "at place i (from 0) among the CANDIDATES .. or in THE RANKING ..; REFUSED if .. q is out of range"
    private static void rankedRanges() {
        for (boolean learned : new boolean[] {false, true}) {
            range("ranked(q, 0, " + learned + ")", 0, 7, REFUSED, q -> asked(16).ranked(q, 0, learned));
            range("ranked(0, i, " + learned + ")", 0, 15, REFUSED, i -> asked(16).ranked(0, i, learned));
            range("ranked(7, i, " + learned + "), DEPTH 1", 0, 0, REFUSED, i -> asked(1).ranked(7, i, learned));
            range("ranked(0, i, " + learned + "), DEPTH 8", 0, 7, REFUSED, i -> asked(8).ranked(0, i, learned));
        }
    }

    /** Every document is a CANDIDATE of every query, and one tree is grown. */
    private static LearnedRanker asked(int depth) {
        LearnedRanker x = everyDocument();
        for (int q = 0; q < 8; q++) {
            x.query(q, 1);
        }
        x.depth(depth);
        x.judge(0, 0, 1);
        x.judge(0, 15, 7);
        x.train(1, 1, 1);
        return x;
    }

    // Promise 10: "REFUSED if there is none"
    private static void rankedWithoutSuchAPlace() {
        LearnedRanker x = new LearnedRanker();
        Due.order("without documents", x, 0, false);
        Due.order("without documents, anew", x, 0, true);
        Make.put(x, 9, 0, 1);
        Due.order("an empty query", x, 0, false);
        x.query(0, 1);
        Due.order("one CANDIDATE", x, 0, false, 9);
        Due.order("one CANDIDATE anew", x, 0, true, 9);
        Due.is("no place -1", x.ranked(0, -1, false), REFUSED);
        Due.is("no place -1 anew", x.ranked(0, -1, true), REFUSED);
    }

    // Promise 11: "NONE if q is out of range or the document isn't there"
    private static void scoreRanges() {
        range("score(q, 0)", 0, 7, NONE, q -> asked(8).score(q, 0));
        range("score(0, d)", 0, 15, NONE, d -> asked(8).score(0, d));
        range("score(q, 0) without trees", 0, 7, NONE, q -> everyDocument().score(q, 0));
    }

    private static void scoreOfADocumentThatIsNotThere() {
        LearnedRanker x = fourTrees();
        Due.is("never there", x.score(0, 4), NONE);
        Due.is("there", x.score(0, 3), 7 * UNIT);
        x.remove(3);
        Due.is("no more there, though judged", x.score(0, 3), NONE);
        x.document(3, 1);
        Due.is("there again, with its FEATURES now", x.score(0, 3), 0);
        x.remove(3);
        x.train(0, 0, 1);
        Due.is("not there, and no trees", x.score(0, 3), NONE);
        Due.is("there, and no trees", x.score(0, 2), 0);
    }

    // Promise 12: "times 65536; NONE for q out of range"
    private static void meritRange() {
        range("merit(q, false)", 0, 7, NONE, q -> asked(8).merit(q, false));
        range("merit(q, true)", 0, 7, NONE, q -> asked(8).merit(q, true));
        range("merit(q, true) of a new object", 0, 7, NONE, q -> new LearnedRanker().merit(q, true));
        LearnedRanker x = asked(16);
        Due.is("1 first, 127 last", x.merit(0, false), UNIT + 127 * UNIT / 32768);
        // The tree splits at quality 0, so documents 1 to 15 come before document 0.
        Due.is("127 at place 14, 1 at place 15", x.merit(0, true), 127 * UNIT / 16384 + UNIT / 32768);
        Due.is("a query without CANDIDATES", new LearnedRanker().merit(0, false), 0);
    }

    // Promise 13: "No judgement i ..: NONE."
    private static void restRange() {
        range("rest(i) of four", 0, 3, NONE, i -> fourTrees().rest(i));
        range("rest(i) of one", 0, 0, NONE, i -> Make.judged(new int[] {1}, new int[] {0}).rest(i));
        range("rest(i) of 16", 0, 15, NONE, i -> Make.judged(new int[16], new int[16]).rest(i));
        Due.is("rest(0) of none", new LearnedRanker().rest(0), NONE);
        Due.is("rest(-1) of none", new LearnedRanker().rest(-1), NONE);
    }

    // Promise 13: "or its document isn't there: NONE"
    private static void restOfADocumentThatIsNotThere() {
        LearnedRanker x = Make.judged(new int[] {1, 2, 3}, new int[] {4, 5, 6});
        x.remove(1);
        Due.is("the first", x.rest(0), 4 * UNIT);
        Due.is("its document isn't there", x.rest(1), NONE);
        Due.is("the third is number 2 still", x.rest(2), 6 * UNIT);
        x.document(1, 0);
        Due.is("there again", x.rest(1), 5 * UNIT);
    }

    // Promise 13: "The GRADE of judgement number i less the SCORE for its query and document now"
    private static void restNow() {
        LearnedRanker x = fourTrees();
        Due.is("nothing is left", x.rest(3), 0);
        x.judge(0, 3, 0);
        Due.is("the GRADE now", x.rest(3), -7 * UNIT);
        x.document(3, 0);
        Due.is("the FEATURES now", x.rest(3), 0);
        x.judge(0, 3, 7);
        Due.is("both now", x.rest(3), 7 * UNIT);
        x.train(0, 0, 1);
        Due.is("the trees now", x.rest(2), 5 * UNIT);
    }

    // Promise 14: "No such tree, node or what: NONE."
    private static void nodeRanges() {
        range("node(t, 0, 0)", 0, 3, NONE, t -> fourTrees().node(t, 0, 0));
        range("node(0, n, 0)", 0, 6, NONE, n -> fourTrees().node(0, n, 0));
        range("node(0, n, 1)", 0, 6, NONE, n -> fourTrees().node(0, n, 1));
        range("node(1, n, 2)", 0, 0, NONE, n -> fourTrees().node(1, n, 2));
        range("node(0, 0, what) of a SPLIT", 0, 1, NONE, what -> fourTrees().node(0, 0, what));
        range("node(0, 3, what) of a LEAF", 0, 2, NONE, what -> fourTrees().node(0, 3, what));
        range("node(0, 6, what) of a LEAF", 0, 2, NONE, what -> fourTrees().node(0, 6, what));
    }

    // Promise 14: "-1 each for a LEAF; the value of a LEAF times 65536 (2), NONE for a SPLIT"
    private static void nodeOfLeafAndSplit() {
        LearnedRanker x = fourTrees();
        Due.split("the whole tree", x, 0, 0, 3, 2);
        Due.split("its first tree", x, 0, 1, 3, 1);
        Due.split("its second tree", x, 0, 2, 3, 4);
        Due.leaf("first of the first", x, 0, 3, 0);
        Due.leaf("second of the first", x, 0, 4, 2 * UNIT);
        Due.leaf("first of the second", x, 0, 5, 5 * UNIT);
        Due.leaf("second of the second", x, 0, 6, 7 * UNIT);
        Due.leaf("the last tree, of value 0", x, 3, 0, 0);
        Due.noNode("below the last tree", x, 3, 1);
        Due.noNode("below the last tree", x, 3, 2);
    }

    private static void nodeOfNoTree() {
        LearnedRanker x = new LearnedRanker();
        Due.noNode("before any training", x, 0, 0);
        x.train(4, 2, 1);
        Due.noNode("without SAMPLES", x, 0, 0);
        LearnedRanker y = fourTrees();
        y.train(2, 2, 1);
        Due.leaf("the second of two", y, 1, 0, 0);
        Due.noNode("the third of two", y, 2, 0);
        Due.noNode("the fourth of two", y, 3, 0);
    }

    // Promise 15: each of the numbers that are counted, at its least and its greatest.
    private static void countOfNothingAndOfEverything() {
        LearnedRanker x = new LearnedRanker();
        int[] all = {0, 1, 2, 3, 5, 1000, 10000, -1, -8};
        for (int what : all) {
            Due.is("of a new object: count(" + what + ")", x.count(what), 0);
        }
        x.query(0, 4095);
        x.query(7, 4095);
        for (int d = 0; d < 16; d++) {
            Make.put(x, d, d, 15, 15, 15, 15, 15, 15, 15, 15, 15, 15, 15, 15);
            x.judge(0, d, 7);
        }
        x.depth(16);
        x.train(4, 0, 1);
        int[][] greatest = {{0, 16}, {1, 16}, {2, 16}, {3, 4}, {4, 16}, {1000, 2880}, {10000, 112}, {-1, 12}, {-8, 12}};
        for (int[] row : greatest) {
            Due.is("the greatest: count(" + row[0] + ")", x.count(row[0]), row[1]);
        }
        x.remove(15);
        Due.is("SIZES of documents that are there", x.count(1000), 2700);
        Due.is("GRADES of all judgements, LIVE or not", x.count(10000), 112);
        LearnedRanker y = Make.judged(new int[] {1, 2, 4, 8}, new int[] {0, 2, 5, 7});
        y.train(2, 2, 1);
        Due.is("splits of a full tree and a LEAF", y.count(5), 3);
    }

    // Promise 15: "another what: -1000"
    private static void countOfAnotherWhat() {
        int[] known = {0, 1, 2, 3, 4, 5, 1000, 10000, -1, -2, -3, -4, -5, -6, -7, -8};
        for (int what = -1100; what <= 10100; what++) {
            boolean isKnown = false;
            for (int one : known) {
                isKnown |= one == what;
            }
            int got = countOfNew(what);
            Due.holds("count(" + what + ") answered " + got, (got == -1000) != isKnown);
        }
        for (int bit = 5; bit < 32; bit++) {
            Due.is("count(1 << " + bit + ")", countOfNew(1 << bit), -1000);
            Due.is("count(-1 - (1 << " + bit + "))", countOfNew(-1 - (1 << bit)), -1000);
        }
        Due.is("count(MIN_VALUE)", countOfNew(Integer.MIN_VALUE), -1000);
        Due.is("count(MAX_VALUE)", countOfNew(Integer.MAX_VALUE), -1000);
    }

    private static int countOfNew(int what) {
        return new LearnedRanker().count(what);
    }
}
