import java.util.ArrayList;
import java.util.List;
import java.util.function.ToLongFunction;

/**
 * "A refused call changes nothing.": whatever can be asked of an object answers the same with and
 * without a refused call before it. Nor do calls that only ask change anything.
 */
public final class RefusedCallsTest {
    private static final int[] NO_QUERIES = {-1, 8, Integer.MIN_VALUE, Integer.MAX_VALUE};
    private static final int[] NO_DOCUMENTS = {-1, 16, Integer.MIN_VALUE, Integer.MAX_VALUE};
    /** Document 6 is not there in either state; documents 2 and 3 are, with terms. */
    private static final int GONE = 6;
    /** Keeps an object within the document's 512 calls: some 90 make it, so many ask. */
    private static final int ASKED_OF_ONE_OBJECT = 400;

    private record Call(String name, ToLongFunction<LearnedRanker> made, long due) {
    }

    private final boolean full;
    private final List<ToLongFunction<LearnedRanker>> questions = new ArrayList<>();
    private final List<Call> refused = new ArrayList<>();
    private final List<Long> answers;
    /** The number of the first question that changes something. */
    private int firstChange;

    private RefusedCallsTest(boolean full) {
        this.full = full;
        listQuestions();
        listRefusedChanges();
        listRefusedQuestions();
        answers = answersAfter(null);
    }

    public static void main(String[] args) {
        for (boolean full : new boolean[] {false, true}) {
            RefusedCallsTest test = new RefusedCallsTest(full);
            test.somethingIsThere();
            test.nothingIsChanged();
        }
        fullChangesNothing();
        askingChangesNothing();
        Due.end();
    }

    private LearnedRanker made() {
        LearnedRanker x = new LearnedRanker();
        for (int d = 0; d < 12; d++) {
            Make.put(x, d, d * 7 % 16, d % 3, d * 5 % 16, 0, d % 2);
        }
        x.remove(GONE);
        x.query(0, 0b1011);
        x.query(2, 0b0010);
        x.query(7, 4095);
        int judgements = full ? 16 : 15;
        for (int i = 0; i < judgements; i++) {
            x.judge(i < 12 ? i % 3 : 7, i % 12, i * 5 % 8);
        }
        x.depth(5);
        x.train(3, 2, 1);
        return x;
    }

    private void listQuestions() {
        for (int q = 0; q < 8; q++) {
            int query = q;
            for (int d = 0; d < 16; d++) {
                int document = d;
                for (int f = 0; f < 5; f++) {
                    int feature = f;
                    questions.add(x -> x.feature(query, document, feature));
                }
                questions.add(x -> x.score(query, document));
            }
            for (boolean learned : new boolean[] {false, true}) {
                for (int i = 0; i < 6; i++) {
                    int place = i;
                    questions.add(x -> x.ranked(query, place, learned));
                }
                questions.add(x -> x.merit(query, learned));
            }
            questions.add(x -> x.count(-1 - query));
        }
        for (int i = 0; i < 17; i++) {
            int number = i;
            questions.add(x -> x.rest(number));
        }
        for (int i = 0; i < 4 * 7 * 3; i++) {
            int number = i;
            questions.add(x -> x.node(number / 21, number / 3 % 7, number % 3));
        }
        for (int what : new int[] {0, 1, 2, 3, 4, 5, 1000, 10000}) {
            questions.add(x -> x.count(what));
        }
        firstChange = questions.size();
        // The GRADE of a judgement that isn't LIVE shows when its document comes again.
        questions.add(x -> x.document(GONE, 3));
        for (int i = 0; i < 17; i++) {
            int number = i;
            questions.add(x -> x.rest(number));
        }
        questions.add(x -> x.train(4, 2, 2));
        questions.add(x -> x.score(0, GONE));
    }

    private void refuse(String name, long due, ToLongFunction<LearnedRanker> call) {
        refused.add(new Call(name, call, due));
    }

    private void listRefusedChanges() {
        for (int d : NO_DOCUMENTS) {
            refuse("document(" + d + ", 3)", -1, x -> x.document(d, 3));
            refuse("remove(" + d + ")", -1, x -> x.remove(d));
            refuse("term(" + d + ", 1, 3)", -1, x -> x.term(d, 1, 3));
            refuse("judge(0, " + d + ", 3)", -1, x -> x.judge(0, d, 3));
            refuse("judge(0, " + d + ", -1)", -1, x -> x.judge(0, d, -1));
            refuse("document(2, " + d + ")", -1, x -> x.document(2, d));
            refuse("document(GONE, " + d + ")", -1, x -> x.document(GONE, d));
            refuse("term(2, 1, " + d + ")", -1, x -> x.term(2, 1, d));
        }
        refuse("remove(GONE)", -1, x -> x.remove(GONE));
        refuse("term(GONE, 1, 3)", -1, x -> x.term(GONE, 1, 3));
        refuse("term(15, 1, 3)", -1, x -> x.term(15, 1, 3));
        for (int t : new int[] {-1, 12, Integer.MIN_VALUE, Integer.MAX_VALUE}) {
            refuse("term(2, " + t + ", 3)", -1, x -> x.term(2, t, 3));
        }
        for (int q : NO_QUERIES) {
            refuse("query(" + q + ", 5)", -1, x -> x.query(q, 5));
            refuse("judge(" + q + ", 2, 3)", -1, x -> x.judge(q, 2, 3));
            refuse("judge(" + q + ", 2, -1)", -1, x -> x.judge(q, 2, -1));
        }
        for (int mask : new int[] {-1, 4096, Integer.MIN_VALUE, Integer.MAX_VALUE}) {
            refuse("query(0, " + mask + ")", -1, x -> x.query(0, mask));
        }
        for (int grade : new int[] {-2, 8, Integer.MIN_VALUE, Integer.MAX_VALUE}) {
            refuse("judge(0, 2, " + grade + ")", -1, x -> x.judge(0, 2, grade));
            refuse("judge(6, 15, " + grade + ")", -1, x -> x.judge(6, 15, grade));
        }
        for (int n : new int[] {0, -1, 17, Integer.MIN_VALUE, Integer.MAX_VALUE}) {
            refuse("depth(" + n + ")", -1, x -> x.depth(n));
        }
        for (int[] row : new int[][] {{-1, 1, 1}, {5, 1, 1}, {2, -1, 1}, {2, 3, 1}, {2, 1, 0}, {2, 1, 9}, {0, 0, 0}}) {
            refuse("train(" + row[0] + ", " + row[1] + ", " + row[2] + ")", -1, x -> x.train(row[0], row[1], row[2]));
        }
        if (full) {
            refuse("judge(6, 15, 3)", -2, x -> x.judge(6, 15, 3));
            refuse("judge(6, 0, 0)", -2, x -> x.judge(6, 0, 0));
        }
    }

    private void listRefusedQuestions() {
        long none = LearnedRanker.NONE;
        for (int q : NO_QUERIES) {
            refuse("feature(" + q + ", 2, 1)", -1, x -> x.feature(q, 2, 1));
            refuse("ranked(" + q + ", 0, true)", -1, x -> x.ranked(q, 0, true));
            refuse("score(" + q + ", 2)", none, x -> x.score(q, 2));
            refuse("merit(" + q + ", true)", none, x -> x.merit(q, true));
        }
        refuse("feature(0, GONE, 1)", -1, x -> x.feature(0, GONE, 1));
        refuse("feature(0, 2, 5)", -1, x -> x.feature(0, 2, 5));
        refuse("ranked(7, 5, true)", -1, x -> x.ranked(7, 5, true));
        refuse("ranked(7, -1, false)", -1, x -> x.ranked(7, -1, false));
        refuse("score(0, GONE)", none, x -> x.score(0, GONE));
        refuse("rest(16)", none, x -> x.rest(16));
        refuse("rest(-1)", none, x -> x.rest(-1));
        refuse("node(3, 0, 0)", none, x -> x.node(3, 0, 0));
        refuse("node(0, 7, 0)", none, x -> x.node(0, 7, 0));
        refuse("node(0, 0, 3)", none, x -> x.node(0, 0, 3));
        refuse("count(-9)", -1000, x -> x.count(-9));
    }

    /** The answers to all questions, of as many objects as the limit of calls needs. */
    private List<Long> answersAfter(Call call) {
        List<Long> given = new ArrayList<>();
        LearnedRanker x = null;
        for (int i = 0; i < questions.size(); i++) {
            if (i % ASKED_OF_ONE_OBJECT == 0) {
                x = made();
                if (call != null) {
                    Due.is(name() + call.name, call.made.applyAsLong(x), call.due);
                }
            }
            given.add(questions.get(i).applyAsLong(x));
        }
        return given;
    }

    private String name() {
        return full ? "with 16 judgements: " : "with 15 judgements: ";
    }

    /** A state with little in it would let a change go unseen. */
    private void somethingIsThere() {
        LearnedRanker x = made();
        Due.is(name() + "documents", x.count(0), 11);
        Due.is(name() + "judgements", x.count(1), full ? 16 : 15);
        Due.holds(name() + "one that isn't LIVE", x.count(2) < x.count(1));
        Due.is(name() + "trees", x.count(3), 3);
        Due.holds(name() + "splits", x.count(5) > 3);
        Due.holds(name() + "THE RANKING differs", x.merit(7, true) != x.merit(7, false));
        boolean isSame = firstChange / ASKED_OF_ONE_OBJECT == (questions.size() - 1) / ASKED_OF_ONE_OBJECT;
        Due.holds(name() + "the questions that change something go to the same object", isSame);
    }

    private void nothingIsChanged() {
        for (Call call : refused) {
            List<Long> given = answersAfter(call);
            Due.holds(name() + call.name + " changes nothing", given.equals(answers));
        }
    }

    // A call that finds no room is no refused one by its answer, but leaves things as they are as well.
    private static void fullChangesNothing() {
        LearnedRanker x = Make.judged(new int[16], new int[] {0, 1, 2, 3, 4, 5, 6, 7, 0, 1, 2, 3, 4, 5, 6, 7});
        Due.is("the 17th", x.judge(2, 15, 5), LearnedRanker.FULL);
        Due.is("16", x.count(1), 16);
        Due.is("the last is that of query 0", x.rest(15), 7 * 65536L);
        Due.is("and none is behind it", x.rest(16), LearnedRanker.NONE);
    }

    private static void askingChangesNothing() {
        RefusedCallsTest test = new RefusedCallsTest(true);
        int asked = ASKED_OF_ONE_OBJECT / 2;
        for (int start = 0; start + asked <= test.firstChange; start += asked) {
            LearnedRanker x = test.made();
            for (int i = start; i < start + 2 * asked; i++) {
                int question = start + (i - start) % asked;
                long got = test.questions.get(question).applyAsLong(x);
                Due.is("question " + question + ", once and again", got, test.answers.get(question));
            }
        }
    }
}
