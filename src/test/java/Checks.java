import java.util.ArrayList;
import java.util.Arrays;
import java.util.List;
import java.util.NoSuchElementException;

/** Answers compared with the ones that are due; thrown exceptions count as answers too. */
final class Checks {
    static final String NO_TERM = "IllegalArgumentException";
    static final String TOO_DEEP = "UnsupportedOperationException";
    static final String NO_PROGRAM = "IllegalStateException";
    static final String NOTHING_SUCH = "NoSuchElementException";

    private static int done = 0;
    private static int wrong = 0;
    private static int doneBeforeSentence = 0;
    private static int sentences = 0;
    private static String sentence = "";

    interface Call {
        Object answer();
    }

    private Checks() {
    }

    /** What is checked from here on is held by these words of the document. */
    static void sentence(int promise, String words) {
        endSentence();
        sentence = "promise " + promise + ", \"" + words + "\": ";
        sentences++;
    }

    private static void endSentence() {
        if (!sentence.isEmpty() && done == doneBeforeSentence) {
            wrong++;
            System.out.println(sentence + "nothing was checked");
        }
        doneBeforeSentence = done;
        sentence = "";
    }

    static void due(String call, Object want, Call got) {
        done++;
        Object answer = answerOf(got);
        if (!want.equals(answer)) {
            wrong++;
            System.out.println(sentence + call + " answered " + answer + ", due is " + want);
        }
    }

    private static Object answerOf(Call call) {
        try {
            return call.answer();
        } catch (RuntimeException | StackOverflowError e) {
            return e.getClass().getSimpleName();
        }
    }

    static void dueWritten(String want, TermSimplifier t) {
        due("written", want, () -> writing(t));
    }

    static void dueCounts(String want, TermSimplifier t) {
        due("counts", want, () -> countsOf(t));
    }

    static void dueRan(String want, TermSimplifier t) {
        due("ran", want, () -> ranOf(t));
    }

    static void dueConvert(Object want, int... code) {
        due("convert of " + Arrays.toString(code), want, () -> typed(code).convert());
    }

    /** Of the code: what a pass answers, and what is written then. */
    static void duePass(int steps, String written, int... code) {
        TermSimplifier t = converted(code);
        due("pass of " + Arrays.toString(code), steps, t::pass);
        dueWritten(written, t);
    }

    /** Of the code: how its run ends, and all that the run leaves. */
    static void dueRun(String want, int... code) {
        due("run of " + Arrays.toString(code), want, () -> runOf(converted(code)));
    }

    /** A new object whose code is as given. */
    static TermSimplifier typed(int... code) {
        TermSimplifier made = new TermSimplifier();
        type(made, code);
        return made;
    }

    static void type(TermSimplifier t, int... code) {
        for (int n : code) {
            if (!t.type(n)) {
                throw new AssertionError("type(" + n + ") answered false");
            }
        }
    }

    static TermSimplifier converted(int... code) {
        TermSimplifier made = typed(code);
        made.convert();
        return made;
    }

    /** All numbers that the program is written as. */
    static String writing(TermSimplifier t) {
        List<String> all = new ArrayList<>();
        try {
            for (int k = 0; k < 10000; k++) {
                all.add("" + t.written(k));
            }
        } catch (NoSuchElementException end) {
            return String.join(" ", all);
        }
        return "endless";
    }

    static String countsOf(TermSimplifier t) {
        StringBuilder all = new StringBuilder();
        for (int what = 0; what <= 5; what++) {
            all.append(what == 0 ? "" : " ").append(t.count(what));
        }
        return all.toString();
    }

    /** How a run ended, and what it left. */
    static String runOf(TermSimplifier t) {
        return t.run() + ": " + ranOf(t);
    }

    static String ranOf(TermSimplifier t) {
        return t.ran(0) + " " + t.ran(1) + " " + t.ran(2) + " " + t.ran(3);
    }

    /** Joins rows of code, so that long terms can be put together from parts. */
    static int[] code(int[]... parts) {
        int length = 0;
        for (int[] part : parts) {
            length += part.length;
        }
        int[] all = new int[length];
        int at = 0;
        for (int[] part : parts) {
            System.arraycopy(part, 0, all, at, part.length);
            at += part.length;
        }
        return all;
    }

    static int[] of(int... ints) {
        return ints;
    }

    static int[] times(int n, int... part) {
        int[] all = new int[n * part.length];
        for (int k = 0; k < all.length; k++) {
            all[k] = part[k % part.length];
        }
        return all;
    }

    static void end() {
        endSentence();
        String held = sentences == 0 ? "" : " for " + sentences + " sentences of the document";
        System.out.println((done - wrong) + " answers are as due" + held + ", " + wrong + " are not");
        if (wrong > 0 || done == 0) {
            System.exit(1);
        }
    }
}
