/** Promises 5 to 7 and 15: query, judge, depth, count. */
public final class JudgementsTest {
    private static final int[] NO_QUERIES = {-1, 8, Integer.MIN_VALUE, Integer.MAX_VALUE};

    public static void main(String[] args) {
        queryEdges();
        queryKeepsJudgementsAndTrees();
        judgeEdges();
        judgeTakesAway();
        judgeFull();
        judgementsByNumber();
        depthEdges();
        liveOnes();
        counts();
        Due.end();
    }

    private static void queryEdges() {
        LearnedRanker x = new LearnedRanker();
        Due.is("query(0, 4095)", x.query(0, 4095), 0);
        Due.is("query(7, 1 << 11)", x.query(7, 1 << 11), 0);
        Due.is("terms of query 0", x.count(-1), 12);
        Due.is("terms of query 7", x.count(-8), 1);
        Due.is("terms of query 1", x.count(-2), 0);
        for (int q : NO_QUERIES) {
            Due.is("query(" + q + ", 1)", x.query(q, 1), -1);
        }
        int[] noMasks = {-1, 4096, Integer.MIN_VALUE, Integer.MAX_VALUE};
        for (int mask : noMasks) {
            Due.is("query(0, " + mask + ")", x.query(0, mask), -1);
        }
        Due.is("a refused call leaves the query", x.count(-1), 12);
        Due.is("query(0, 5)", x.query(0, 5), 0);
        Due.is("the query is set, not added to", x.count(-1), 2);
        Due.is("query(0, 0)", x.query(0, 0), 0);
        Due.is("the query is empty", x.count(-1), 0);
    }

    private static void queryKeepsJudgementsAndTrees() {
        LearnedRanker x = new LearnedRanker();
        x.document(0, 0);
        x.query(3, 1);
        x.judge(3, 0, 6);
        x.train(2, 1, 1);
        x.query(3, 2);
        Due.is("judgements stay", x.count(1), 1);
        Due.is("their grades stay", x.count(10000), 6);
        Due.is("trees stay", x.count(3), 2);
    }

    private static void judgeEdges() {
        LearnedRanker x = new LearnedRanker();
        Due.is("judge(0, 0, 0)", x.judge(0, 0, 0), 0);
        Due.is("judge(7, 15, 7), document not there", x.judge(7, 15, 7), 0);
        Due.is("judgements", x.count(1), 2);
        Due.is("none is live", x.count(2), 0);
        for (int q : NO_QUERIES) {
            Due.is("judge(" + q + ", 0, 1)", x.judge(q, 0, 1), -1);
            Due.is("judge(" + q + ", 0, -1)", x.judge(q, 0, -1), -1);
        }
        int[] noDocuments = {-1, 16, Integer.MIN_VALUE, Integer.MAX_VALUE};
        for (int d : noDocuments) {
            Due.is("judge(0, " + d + ", 1)", x.judge(0, d, 1), -1);
            Due.is("judge(1, " + d + ", -1)", x.judge(1, d, -1), -1);
        }
        int[] noGrades = {-2, 8, Integer.MIN_VALUE, Integer.MAX_VALUE};
        for (int grade : noGrades) {
            Due.is("judge(0, 0, " + grade + ")", x.judge(0, 0, grade), -1);
        }
        Due.is("a refused call leaves the judgements", x.count(1), 2);
        Due.is("and their grades", x.count(10000), 7);
        Due.is("judge(0, 0, 5) anew", x.judge(0, 0, 5), 0);
        Due.is("still two", x.count(1), 2);
        Due.is("the grade is the new one", x.count(10000), 12);
    }

    private static void judgeTakesAway() {
        LearnedRanker x = new LearnedRanker();
        Due.is("nothing to take away", x.judge(2, 2, -1), 0);
        Due.is("none", x.count(1), 0);
        x.judge(2, 2, 4);
        x.judge(2, 3, 3);
        Due.is("take one away", x.judge(2, 2, -1), 0);
        Due.is("one is left", x.count(1), 1);
        Due.is("its grade", x.count(10000), 3);
        Due.is("take it away again", x.judge(2, 2, -1), 0);
        Due.is("one is left still", x.count(1), 1);
    }

    private static void judgeFull() {
        LearnedRanker x = new LearnedRanker();
        for (int i = 0; i < 16; i++) {
            Due.is("judgement " + i, x.judge(i % 8, i, 1), 0);
        }
        Due.is("the 17th", x.judge(0, 1, 1), -2);
        Due.is("out of range though full", x.judge(0, 16, 1), -1);
        Due.is("a grade out of range though full", x.judge(0, 1, 8), -1);
        Due.is("16 stay", x.count(1), 16);
        Due.is("their grades stay", x.count(10000), 16);
        Due.is("one of the 16 anew", x.judge(0, 0, 7), 0);
        Due.is("its grade", x.count(10000), 22);
        Due.is("-1 for one that isn't there", x.judge(0, 1, -1), 0);
        Due.is("still full", x.judge(0, 1, 0), -2);
        Due.is("take one away", x.judge(7, 15, -1), 0);
        Due.is("room for one", x.judge(0, 1, 0), 0);
        Due.is("full again", x.judge(7, 15, 0), -2);
    }

    private static void judgementsByNumber() {
        LearnedRanker x = new LearnedRanker();
        for (int d = 0; d < 4; d++) {
            x.document(d, 0);
        }
        x.judge(5, 0, 1);
        x.judge(0, 3, 2);
        x.judge(5, 2, 3);
        x.judge(0, 1, 4);
        int[] due = {4, 2, 1, 3};
        for (int i = 0; i < due.length; i++) {
            Due.is("by query, then document: rest(" + i + ")", x.rest(i), due[i] * 65536L);
        }
        x.remove(3);
        Due.is("one that isn't live keeps its number", x.rest(1), LearnedRanker.NONE);
        Due.is("and so do those behind it", x.rest(2), 65536L);
    }

    private static void depthEdges() {
        LearnedRanker x = new LearnedRanker();
        int[] noDepths = {0, -1, 17, Integer.MIN_VALUE, Integer.MAX_VALUE};
        for (int n : noDepths) {
            Due.is("depth(" + n + ")", x.depth(n), -1);
        }
        Due.is("a refused call leaves it", x.count(4), 8);
        Due.is("depth(16)", x.depth(16), 0);
        Due.is("it is 16", x.count(4), 16);
        Due.is("depth(1)", x.depth(1), 0);
        Due.is("it is 1", x.count(4), 1);
    }

    private static void liveOnes() {
        LearnedRanker x = new LearnedRanker();
        x.judge(0, 0, 0);
        x.judge(7, 0, 1);
        x.judge(7, 15, 2);
        Due.is("no document is there", x.count(2), 0);
        x.document(0, 0);
        Due.is("document 0 is there", x.count(2), 2);
        x.document(15, 0);
        Due.is("document 15 too", x.count(2), 3);
        x.remove(0);
        Due.is("document 0 no more", x.count(2), 1);
        x.judge(7, 15, -1);
        Due.is("its judgement no more", x.count(2), 0);
    }

    private static void counts() {
        LearnedRanker x = new LearnedRanker();
        x.document(3, 0);
        x.document(9, 4);
        x.term(3, 1, 4);
        x.term(9, 1, 15);
        x.term(9, 2, 1);
        x.judge(1, 3, 2);
        x.judge(1, 9, 7);
        x.judge(1, 10, 5);
        x.query(1, 2);
        x.query(4, 0b101010101010);
        x.depth(5);
        x.train(3, 1, 1);
        int[][] due = {
            {0, 2}, {1, 3}, {2, 2}, {3, 3}, {4, 5}, {5, 1}, {1000, 20}, {10000, 14},
            {-1, 0}, {-2, 1}, {-5, 6}, {-8, 0}};
        for (int[] row : due) {
            Due.is("count(" + row[0] + ")", x.count(row[0]), row[1]);
        }
        int[] others = {6, 7, 999, 1001, 9999, 10001, -9, -10, -1000, Integer.MIN_VALUE, Integer.MAX_VALUE};
        for (int what : others) {
            Due.is("count(" + what + ")", x.count(what), -1000);
        }
    }
}
