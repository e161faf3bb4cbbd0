/** Promises 10 to 13: ranked, score, merit, rest. */
public final class RankingTest {
    private static final long UNIT = 65536L;
    private static final long NONE = LearnedRanker.NONE;
    private static final int[] NO_QUERIES = {-1, 8, Integer.MIN_VALUE, Integer.MAX_VALUE};

    public static void main(String[] args) {
        candidatesByPlainScore();
        equalPlainScores();
        weightsOfThePlainScore();
        negativePlainScore();
        cutOffAfterDepth();
        rankingByScore();
        equalScoresKeepTheOrder();
        onlyCandidatesAreRankedAnew();
        rankedRefusals();
        scores();
        merits();
        meritOfSixteen();
        rests();
        Due.end();
    }

    private static void candidatesByPlainScore() {
        LearnedRanker x = new LearnedRanker();
        x.query(2, 0b11);
        Make.put(x, 0, 15, 2, 0, 5);
        Make.put(x, 1, 0, 1, 1);
        Make.put(x, 2, 0, 2);
        Make.put(x, 3, 0, 0, 0, 15);
        Make.put(x, 4, 0, 3, 0, 15, 15, 15);
        x.document(5, 15);
        Due.order("by falling PLAIN SCORE", x, 2, false, 1, 2, 0, 4);
        Due.order("without trees THE RANKING is the same", x, 2, true, 1, 2, 0, 4);
        Due.order("an empty query has none", x, 3, false);
        x.remove(2);
        Due.order("a removed document", x, 2, false, 1, 0, 4);
        x.query(2, 0b100);
        Due.order("another query", x, 2, false, 3, 4, 0);
    }

    private static void equalPlainScores() {
        LearnedRanker x = new LearnedRanker();
        x.query(0, 0b11);
        Make.put(x, 9, 0, 4);
        Make.put(x, 3, 7, 0, 4);
        Make.put(x, 12, 3, 4);
        Make.put(x, 5, 1, 5);
        Due.order("the lesser number first", x, 0, false, 5, 3, 9, 12);
        Make.put(x, 7, 0, 4, 0, 4);
        Make.put(x, 8, 0, 2, 2, 8);
        Due.order("equal by 4 * FEATURE 0 and SIZE", x, 0, false, 5, 3, 9, 12, 7, 8);
    }

    /** All five have a PLAIN SCORE of 34; any other weight would bring a later one to the front. */
    private static void weightsOfThePlainScore() {
        LearnedRanker x = new LearnedRanker();
        x.query(0, 0b11);
        Make.put(x, 0, 0, 1, 1, 4);
        Make.put(x, 1, 0, 2);
        Make.put(x, 2, 0, 1, 1, 4);
        Make.put(x, 3, 0, 3, 0, 15);
        Make.put(x, 4, 0, 2);
        Due.order("five of 34", x, 0, false, 0, 1, 2, 3, 4);
    }

    private static void negativePlainScore() {
        LearnedRanker x = new LearnedRanker();
        x.query(0, 1);
        Make.put(x, 4, 0, 1, 15, 15, 15, 15, 15, 15, 15, 15, 15, 15, 15);
        Make.put(x, 5, 0, 1, 15, 15, 15, 15, 15, 15, 15, 15, 15, 15, 14);
        Due.order("below 0 but candidates", x, 0, false, 5, 4);
    }

    private static void cutOffAfterDepth() {
        LearnedRanker x = new LearnedRanker();
        x.query(0, 1);
        for (int d = 0; d < 16; d++) {
            Make.put(x, d, 0, d < 15 ? d + 1 : 15);
        }
        Due.order("DEPTH 8 at first", x, 0, false, 14, 15, 13, 12, 11, 10, 9, 8);
        x.depth(1);
        Due.order("DEPTH 1", x, 0, false, 14);
        Due.order("DEPTH 1 anew", x, 0, true, 14);
        x.depth(16);
        Due.order("DEPTH 16", x, 0, false, 14, 15, 13, 12, 11, 10, 9, 8, 7, 6, 5, 4, 3, 2, 1, 0);
    }

    /** Documents 0 to 3, candidates in the order 3, 2, 1, 0, whose scores are twice their quality. */
    private static LearnedRanker trained() {
        LearnedRanker x = new LearnedRanker();
        x.query(0, 1);
        int[] qualities = {1, 3, 2, 0};
        for (int d = 0; d < 4; d++) {
            Make.put(x, d, qualities[d], d + 1);
        }
        for (int d = 8; d < 12; d++) {
            x.document(d, d - 8);
            x.judge(1, d, 2 * (d - 8));
        }
        Due.is("train(1, 2, 1)", x.train(1, 2, 1), 4);
        return x;
    }

    private static void rankingByScore() {
        LearnedRanker x = trained();
        Due.order("CANDIDATES", x, 0, false, 3, 2, 1, 0);
        Due.order("THE RANKING", x, 0, true, 1, 2, 0, 3);
        x.document(3, 3);
        x.term(3, 0, 15);
        Due.order("of documents as they are now", x, 0, true, 3, 1, 2, 0);
    }

    private static void equalScoresKeepTheOrder() {
        LearnedRanker x = new LearnedRanker();
        x.query(0, 1);
        for (int d = 0; d < 5; d++) {
            Make.put(x, d, d % 2, d + 1);
        }
        x.document(14, 0);
        x.document(15, 1);
        x.judge(1, 14, 1);
        x.judge(1, 15, 5);
        x.train(1, 1, 1);
        Due.order("those before as CANDIDATES first", x, 0, true, 3, 1, 4, 2, 0);
    }

    private static void onlyCandidatesAreRankedAnew() {
        LearnedRanker x = trained();
        x.depth(2);
        Due.order("two candidates", x, 0, false, 3, 2);
        Due.order("the same two anew", x, 0, true, 2, 3);
    }

    private static void rankedRefusals() {
        LearnedRanker x = trained();
        int[] noPlaces = {-1, 4, 16, Integer.MIN_VALUE, Integer.MAX_VALUE};
        for (int i : noPlaces) {
            Due.is("ranked(0, " + i + ", false)", x.ranked(0, i, false), -1);
            Due.is("ranked(0, " + i + ", true)", x.ranked(0, i, true), -1);
        }
        for (int q : NO_QUERIES) {
            Due.is("ranked(" + q + ", 0, false)", x.ranked(q, 0, false), -1);
            Due.is("ranked(" + q + ", 0, true)", x.ranked(q, 0, true), -1);
        }
    }

    private static void scores() {
        LearnedRanker x = trained();
        long[] due = {2, 6, 4, 0};
        for (int d = 0; d < 4; d++) {
            Due.is("score(0, " + d + ")", x.score(0, d), due[d] * UNIT);
        }
        Due.is("of a document that is no candidate", x.score(0, 11), 6 * UNIT);
        x.document(2, 15);
        Due.is("above all thresholds", x.score(7, 2), 6 * UNIT);
        Due.is("document not there", x.score(0, 5), NONE);
        int[] noDocuments = {-1, 16, Integer.MIN_VALUE, Integer.MAX_VALUE};
        for (int d : noDocuments) {
            Due.is("score(0, " + d + ")", x.score(0, d), NONE);
        }
        for (int q : NO_QUERIES) {
            Due.is("score(" + q + ", 0)", x.score(q, 0), NONE);
        }
    }

    private static void merits() {
        LearnedRanker x = trained();
        Due.is("none is judged", x.merit(0, false), 0);
        x.judge(0, 3, 1);
        x.judge(0, 1, 7);
        x.judge(0, 0, 3);
        Due.is("1 + 127 / 4 + 7 / 8", x.merit(0, false), UNIT + 127 * UNIT / 4 + 7 * UNIT / 8);
        Due.is("127 + 7 / 4 + 1 / 8", x.merit(0, true), 127 * UNIT + 7 * UNIT / 4 + UNIT / 8);
        x.judge(0, 2, 0);
        Due.is("grade 0 adds nothing", x.merit(0, false), UNIT + 127 * UNIT / 4 + 7 * UNIT / 8);
        x.judge(0, 9, 7);
        Due.is("nor does one that is no candidate", x.merit(0, false), UNIT + 127 * UNIT / 4 + 7 * UNIT / 8);
        x.depth(1);
        Due.is("nor one beyond DEPTH", x.merit(0, false), UNIT);
        Due.is("nor one beyond DEPTH anew", x.merit(0, true), UNIT);
        x.query(1, 1);
        Due.is("judged for another query", x.merit(1, false), 0);
        x.remove(3);
        x.depth(8);
        Due.is("a removed document", x.merit(0, false), 127 * UNIT / 2 + 7 * UNIT / 4);
        Due.is("an empty query", x.merit(6, true), 0);
        for (int q : NO_QUERIES) {
            Due.is("merit(" + q + ", false)", x.merit(q, false), NONE);
            Due.is("merit(" + q + ", true)", x.merit(q, true), NONE);
        }
    }

    private static void meritOfSixteen() {
        LearnedRanker x = new LearnedRanker();
        x.query(0, 1);
        x.depth(16);
        long due = 0;
        for (int d = 0; d < 16; d++) {
            Make.put(x, d, 0, 1);
            x.judge(0, d, 7);
            due += 127 * (UNIT >> d);
        }
        Due.is("sixteen of grade 7", x.merit(0, false), due);
        Due.is("sixteen of grade 7 anew", x.merit(0, true), due);
        for (int d = 0; d < 15; d++) {
            x.judge(0, d, 0);
        }
        Due.is("the last place", x.merit(0, false), 254);
    }

    private static void rests() {
        LearnedRanker x = trained();
        for (int i = 0; i < 4; i++) {
            Due.is("rest(" + i + ")", x.rest(i), 0);
        }
        x.judge(1, 9, 7);
        Due.is("the grade now", x.rest(1), 5 * UNIT);
        x.document(9, 3);
        Due.is("the score now", x.rest(1), UNIT);
        x.judge(1, 9, 0);
        Due.is("below 0", x.rest(1), -6 * UNIT);
        x.judge(0, 3, 4);
        Due.is("a new first one", x.rest(0), 4 * UNIT);
        Due.is("the last", x.rest(4), 0);
        int[] none = {-1, 5, 16, Integer.MIN_VALUE, Integer.MAX_VALUE};
        for (int i : none) {
            Due.is("rest(" + i + ")", x.rest(i), NONE);
        }
        x.remove(3);
        Due.is("its document isn't there", x.rest(0), NONE);
        Due.is("the next keeps its number", x.rest(1), 0);
        x.train(0, 0, 1);
        Due.is("without trees it is the grade", x.rest(4), 6 * UNIT);
    }
}
