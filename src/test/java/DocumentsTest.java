/** Promises 1 to 4 and 9: a new object, document, remove, term, feature. */
public final class DocumentsTest {
    private static final int[] NO_DOCUMENTS = {-1, 16, Integer.MIN_VALUE, Integer.MAX_VALUE};

    public static void main(String[] args) {
        newObject();
        documentEdges();
        documentAnew();
        removing();
        removedKeepsJudgements();
        termEdges();
        termSetsTheCount();
        features();
        featureRefusals();
        Due.end();
    }

    private static void newObject() {
        LearnedRanker x = new LearnedRanker();
        int[] zero = {0, 1, 2, 3, 5, 1000, 10000, -1, -2, -3, -4, -5, -6, -7, -8};
        for (int what : zero) {
            Due.is("new: count(" + what + ")", x.count(what), 0);
        }
        Due.is("new: DEPTH", x.count(4), 8);
        for (int d = 0; d < 16; d++) {
            Due.is("new: remove(" + d + ")", x.remove(d), -1);
            Due.is("new: score(0, " + d + ")", x.score(0, d), LearnedRanker.NONE);
            Due.is("new: feature(0, " + d + ", 0)", x.feature(0, d, 0), -1);
        }
        for (int q = 0; q < 8; q++) {
            Due.is("new: ranked", x.ranked(q, 0, false), -1);
            Due.is("new: ranked learned", x.ranked(q, 0, true), -1);
            Due.is("new: merit", x.merit(q, false), 0);
            Due.is("new: merit learned", x.merit(q, true), 0);
        }
        Due.is("new: node", x.node(0, 0, 0), LearnedRanker.NONE);
        Due.is("new: rest", x.rest(0), LearnedRanker.NONE);
    }

    private static void documentEdges() {
        LearnedRanker x = new LearnedRanker();
        Due.is("document(0, 15)", x.document(0, 15), 0);
        Due.is("document(15, 0)", x.document(15, 0), 0);
        Due.is("quality of 0", x.feature(0, 0, 3), 15);
        Due.is("quality of 15", x.feature(0, 15, 3), 0);
        Due.is("documents", x.count(0), 2);
        for (int d : NO_DOCUMENTS) {
            Due.is("document(" + d + ", 0)", x.document(d, 0), -1);
        }
        x.term(0, 2, 5);
        int[] noQualities = {-1, 16, Integer.MIN_VALUE, Integer.MAX_VALUE};
        for (int quality : noQualities) {
            Due.is("document(0, " + quality + ")", x.document(0, quality), -1);
            Due.is("document(7, " + quality + ")", x.document(7, quality), -1);
        }
        Due.is("a refused call leaves the quality", x.feature(0, 0, 3), 15);
        Due.is("a refused call leaves the terms", x.feature(0, 0, 2), 5);
        Due.is("a refused call makes no document", x.count(0), 2);
    }

    private static void documentAnew() {
        LearnedRanker x = new LearnedRanker();
        x.document(4, 1);
        x.query(0, 4095);
        for (int t = 0; t < 12; t++) {
            x.term(4, t, 15);
        }
        x.judge(0, 4, 3);
        Due.is("greatest size", x.feature(0, 4, 2), 180);
        Due.is("document(4, 2) anew", x.document(4, 2), 0);
        Due.is("it has no terms", x.feature(0, 4, 0), 0);
        Due.is("its size", x.feature(0, 4, 2), 0);
        Due.is("its quality", x.feature(0, 4, 3), 2);
        Due.is("still one document", x.count(0), 1);
        Due.is("its judgement stays", x.count(1), 1);
        Due.is("and is live", x.count(2), 1);
    }

    private static void removing() {
        LearnedRanker x = new LearnedRanker();
        x.document(0, 1);
        x.document(15, 2);
        x.term(15, 0, 6);
        x.term(0, 1, 4);
        x.query(0, 3);
        for (int d : NO_DOCUMENTS) {
            Due.is("remove(" + d + ")", x.remove(d), -1);
        }
        Due.is("remove(1), not there", x.remove(1), -1);
        Due.is("both stay", x.count(0), 2);
        Due.is("remove(15)", x.remove(15), 0);
        Due.is("remove(15) again", x.remove(15), -1);
        Due.is("one is left", x.count(0), 1);
        Due.is("sizes of what is left", x.count(1000), 4);
        Due.is("feature of the removed", x.feature(0, 15, 0), -1);
        Due.is("score of the removed", x.score(0, 15), LearnedRanker.NONE);
        Due.is("term of the removed", x.term(15, 0, 1), -1);
        Due.is("it is no candidate", x.ranked(0, 0, false), 0);
        Due.is("nor is there a second", x.ranked(0, 1, false), -1);
        x.document(15, 3);
        Due.is("back again, it has no terms", x.feature(0, 15, 2), 0);
        Due.is("back again, its new quality", x.feature(0, 15, 3), 3);
        Due.is("remove(0)", x.remove(0), 0);
        Due.is("remove(15)", x.remove(15), 0);
        Due.is("none is left", x.count(0), 0);
    }

    private static void removedKeepsJudgements() {
        LearnedRanker x = new LearnedRanker();
        x.document(2, 1);
        x.document(3, 1);
        x.judge(0, 2, 5);
        x.judge(0, 3, 4);
        x.train(1, 0, 1);
        x.remove(2);
        Due.is("judgements stay", x.count(1), 2);
        Due.is("live ones", x.count(2), 1);
        Due.is("grades stay", x.count(10000), 9);
        Due.is("trees stay", x.count(3), 1);
        x.document(2, 0);
        Due.is("live again", x.count(2), 2);
    }

    private static void termEdges() {
        LearnedRanker x = new LearnedRanker();
        Due.is("term of no document", x.term(0, 0, 1), -1);
        x.document(0, 0);
        x.document(15, 0);
        Due.is("term(0, 0, 0)", x.term(0, 0, 0), 0);
        Due.is("term(0, 0, 15)", x.term(0, 0, 15), 0);
        Due.is("term(15, 11, 1)", x.term(15, 11, 1), 0);
        for (int d : NO_DOCUMENTS) {
            Due.is("term(" + d + ", 0, 1)", x.term(d, 0, 1), -1);
        }
        int[] noTerms = {-1, 12, Integer.MIN_VALUE, Integer.MAX_VALUE};
        for (int t : noTerms) {
            Due.is("term(0, " + t + ", 1)", x.term(0, t, 1), -1);
        }
        int[] noCounts = {-1, 16, Integer.MIN_VALUE, Integer.MAX_VALUE};
        for (int count : noCounts) {
            Due.is("term(0, 0, " + count + ")", x.term(0, 0, count), -1);
        }
        Due.is("a refused call leaves the counts", x.count(1000), 16);
    }

    private static void termSetsTheCount() {
        LearnedRanker x = new LearnedRanker();
        x.document(0, 0);
        x.document(1, 0);
        x.query(0, 1);
        x.term(0, 0, 9);
        x.term(0, 0, 4);
        Due.is("the count is set, not added", x.feature(0, 0, 1), 4);
        Due.is("the other document has none", x.feature(0, 1, 1), 0);
        x.term(0, 0, 0);
        Due.is("count 0: the document has it no more", x.feature(0, 0, 0), 0);
        Due.is("its size", x.feature(0, 0, 2), 0);
    }

    private static void features() {
        LearnedRanker x = new LearnedRanker();
        x.document(6, 13);
        x.term(6, 0, 2);
        x.term(6, 3, 7);
        x.term(6, 11, 1);
        x.term(6, 5, 9);
        x.query(0, 1 | 1 << 3 | 1 << 4 | 1 << 11);
        int[] due = {3, 10, 19, 13, 7};
        for (int f = 0; f < due.length; f++) {
            Due.is("feature(0, 6, " + f + ")", x.feature(0, 6, f), due[f]);
        }
        int[] dueEmpty = {0, 0, 19, 13, 0};
        for (int f = 0; f < dueEmpty.length; f++) {
            Due.is("empty query: feature(7, 6, " + f + ")", x.feature(7, 6, f), dueEmpty[f]);
        }
        x.query(7, 1 << 4);
        Due.is("a term it has not", x.feature(7, 6, 0), 0);
        x.query(7, 1 << 11);
        Due.is("the last term", x.feature(7, 6, 4), 1);
        x.query(7, 4095);
        Due.is("all terms: how many", x.feature(7, 6, 0), 4);
        Due.is("all terms: the sum", x.feature(7, 6, 1), 19);
        Due.is("all terms: the greatest", x.feature(7, 6, 4), 9);
    }

    private static void featureRefusals() {
        LearnedRanker x = new LearnedRanker();
        x.document(0, 5);
        for (int d : NO_DOCUMENTS) {
            Due.is("feature(0, " + d + ", 3)", x.feature(0, d, 3), -1);
        }
        Due.is("a document that isn't there", x.feature(0, 1, 3), -1);
        int[] noQueries = {-1, 8, Integer.MIN_VALUE, Integer.MAX_VALUE};
        for (int q : noQueries) {
            Due.is("feature(" + q + ", 0, 3)", x.feature(q, 0, 3), -1);
        }
        int[] noFeatures = {-1, 5, Integer.MIN_VALUE, Integer.MAX_VALUE};
        for (int f : noFeatures) {
            Due.is("feature(0, 0, " + f + ")", x.feature(0, 0, f), -1);
        }
        Due.is("feature(7, 0, 3)", x.feature(7, 0, 3), 5);
    }
}
