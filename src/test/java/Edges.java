import java.util.ArrayList;
import java.util.HashMap;
import java.util.List;
import java.util.Map;

/** Edges of the document, told as runs: what a call answers, and that a refusal and a question change nothing. */
final class Edges {
    /** Something of everything: four SINGERS, rows by hand, two VILLAGES, THE IMAGE, THE TRACE, TAPES, a text begun. */
    static final String RICH = "singer 6 5 77 88, singer 1 2 3 60, singer 0 0 14 3, singer 5 4 160 41, "
        + "row 0 0 3, row 0 1 9, row 0 2 4, row 0 3 7, sacks 0 0, sacks 1 99, sacks 3 41, "
        + "say hard 7 m>3&!p=1;easy 2 d<4|n=2;anew 37, village, "
        + "away 1 true, see 3 2 30, plan 3 2, book 1 99, book 3 40, image, "
        + "pass 2, away 1 false, away 2 true, set 0 1 55, sacks 2 7, say anew 12;hard 3 k=1, village, "
        + "see -1 0 0, see 1 0 60, see 2 12 35, plan 0 0, plan 1 3, plan 0 0, book 2 8, act 0 2 5, "
        + "tape 0 0 9, item 0 1 99, item 0 2 7, item 0 3 41, item 0 8 -5, tape 1 1 3, item 1 0 300, "
        + "tape 2 2 3, item 2 2 70000, tape 3 3 60, item 3 59 -1, tape 4 4 2, item 4 1 1, say hard 9 p<6";

    /** SINGERS, SEEN, the PLAN and the BOOK have no room. */
    static final String CROWDED = "singer 6 5 77 88, singer 1 2 3 60, singer 0 0 14 3, singer 5 4 160 41, "
        + "singer 4 9 255 99, singer 3 1 128 20, 2*see 2 0 3, 3*see 5 0 20, "
        + "4*plan 0 0, 5*plan 3 2, plan 1 4, 7*book 0 10, book 7 11, say hard 9 p<6";

    /** There are six VILLAGES, and a text that would be one more. */
    static final String SIX_VILLAGES = "singer 3 2 7 60, say anew 11, village, say anew 12, village, say anew 13, village, "
        + "say anew 14, village, say anew 15, village, image, say anew 16;hard 4 p=0, village, say anew 17";

    /** On the last DAY that there is. */
    static final String LAST_DAY = "166*pass 60, pass 39, singer 5 9 3 50, singer 6 2 5 70, row 1 0 6, row 1 3 8";

    private static final String[] LOOKS = {
        all("count %d", 0, 7) + all("told %d", 0, 6) + each("of %d %d", 6, 9) + each("part %d %d", 8, 5),
        onAll(0) + onAll(1) + onAll(9) + onAll(60) + each("can %d %d", 6, 2) + each("ends %d", 2, 1) + "looked, "
            + all("trace %d", 0, 13) + all("judge %d 0", 0, 6) + all("mean 0 %d", 0, 2) + all("mean 17 %d", 0, 2),
        each("choir %d 0", 256, 1),
        each("odds %d 0 %d", 8, 2) + each("odds %d 5 %d", 8, 2) + each("taken %d %d", 6, 7) + all("choir 3 %d", 0, 2)
            + each("row %d %d 0", 6, 4) + "image, undo, " + all("told %d", 0, 6),
        each("read %d %d", 5, 61),
        each("read 5 %d", 61, 1) + each("shift %d 0 %d 0 0", 6, 6) + all("item %d 0 -70000000001", 0, 6) + all("read %d 0", 0, 6),
        "village, count 1, count 5, " + each("of %d 6", 6, 1) + "told 1, say anew 44, village, told 1, count 5",
        "undo, " + all("count %d", 0, 7) + all("told %d", 0, 6) + each("of %d %d", 6, 9) + all("part %d 0", 0, 8)
            + onAll(9) + "looked, " + each("ends %d", 2, 1) + each("row %d %d 0", 6, 4),
        "pass 1, " + each("of %d %d", 6, 7) + "pass 2, " + each("of %d %d", 6, 7) + "pass 57, " + each("of %d %d", 6, 7),
        "6*singer 6 9 9 99, " + each("of %d %d", 6, 7) + "11*plan 0 0, ends 0, ends 1, 9*book 0 0, looked, "
            + "6*see 0 0 0, of 0 8, of 1 8, " + all("act %d 2 77", 0, 6) + all("trace %d", 0, 13),
    };

    private final Due due;
    private final Map<String, List<Long>> known = new HashMap<>();

    Edges(Due due) {
        this.due = due;
    }

    /** The last call of a run answers so. */
    void answers(String sentence, String ahead, String call, long answer) {
        Run run = new Run();
        run.make(ahead);
        due.is(sentence + " | " + call, last(run.make(call)), answer);
    }

    /** The call answers so, and all that can be looked at is then as it would be without it. */
    void changesNothing(String sentence, String ahead, String call, long answer) {
        answers(sentence, ahead, call, answer);
        for (int look = 0; look < LOOKS.length; look++) {
            Run run = new Run();
            run.make(ahead);
            run.make(call);
            boolean same = run.make(LOOKS[look]).equals(without(ahead, look));
            due.holds(sentence + " | " + call + " changes nothing (look " + look + ")", same);
        }
    }

    /** A refused call. */
    void refuses(String sentence, String ahead, String call, long answer) {
        changesNothing(sentence, ahead, call, answer);
    }

    /** A refused call, once with each of these numbers in the place of #. */
    void refusesEach(String sentence, String ahead, String call, long answer, long... numbers) {
        for (long n : numbers) {
            refuses(sentence, ahead, call.replace("#", Long.toString(n)), answer);
        }
    }

    /** From low to high all is taken in the place of #, and answers so; what is beyond either end is refused. */
    void range(String sentence, String ahead, String call, int low, int high, long answer, long refusal) {
        answers(sentence, ahead, call.replace("#", Integer.toString(low)), answer);
        answers(sentence, ahead, call.replace("#", Integer.toString(high)), answer);
        refusesEach(sentence, ahead, call, refusal, low - 1, high + 1, Integer.MIN_VALUE, Integer.MAX_VALUE);
    }

    /** Behind both runs all that can be looked at is alike. */
    void alike(String sentence, String one, String other) {
        for (int look = 0; look < LOOKS.length; look++) {
            due.holds(sentence + " (look " + look + ")", without(one, look).equals(without(other, look)));
        }
    }

    private List<Long> without(String ahead, int look) {
        String key = look + ahead;
        List<Long> answers = known.get(key);
        if (answers == null) {
            Run run = new Run();
            run.make(ahead);
            answers = run.make(LOOKS[look]);
            known.put(key, answers);
        }
        return new ArrayList<>(answers);
    }

    private static long last(List<Long> answers) {
        return answers.get(answers.size() - 1);
    }

    private static String all(String call, int from, int to) {
        StringBuilder told = new StringBuilder();
        for (int n = from; n < to; n++) {
            told.append(String.format(call, n)).append(", ");
        }
        return told.toString();
    }

    private static String each(String call, int first, int second) {
        StringBuilder told = new StringBuilder();
        for (int n = 0; n < first; n++) {
            for (int m = 0; m < second; m++) {
                told.append(String.format(call, n, m)).append(", ");
            }
        }
        return told.toString();
    }

    private static String onAll(int days) {
        StringBuilder told = new StringBuilder();
        for (int what : new int[] {0, 1, 10, 11, 12, 13, 14, 15, 20, 21, 22, 23, 24, 25}) {
            told.append("on ").append(days).append(' ').append(what).append(", ");
        }
        return told.toString();
    }
}
