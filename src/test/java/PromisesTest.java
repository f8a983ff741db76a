/** Promise by promise: ordinary inputs, the edges that the document names, wrong inputs. Answers are worked out by hand. */
public final class PromisesTest {
    private static final int[] ZERO = {0, 0};
    private static final int[] TWICE = {2, 0, 2, 1, 3, 1, 0, 3, 1, 0, 1, 1};
    private static final int[] SUCCESSOR = {2, 1, 5, 0, 1, 1, 0, 1};
    /** FUN s: FUN n: IF n ((s s) (n - 1)) 0; applied to itself and n it makes rows 2 * (n + 1) deep. */
    private static final int[] COUNT_DOWN = {2, 1, 2, 2, 6, 1, 2, 3, 3, 1, 1, 1, 1, 5, 1, 1, 2, 0, 1, 0, 0};

    public static void main(String[] args) {
        newObject();
        typing();
        convertingToRows();
        convertingNames();
        convertingWhatIsNoTerm();
        convertingTooDeep();
        passesOfFoldsAndChoices();
        passesOfFunctions();
        passesInRowsAround();
        simplifying();
        counting();
        writing();
        runningToTheEnd();
        runningIntoErrors();
        runningIntoLimits();
        whatIsKeptOfRuns();
        Checks.end();
    }

    private static void dueWritten(String want, TermSimplifier t) {
        Checks.due("written", want, () -> Checks.writing(t));
    }

    private static void dueCounts(String want, TermSimplifier t) {
        Checks.due("counts", want, () -> Checks.countsOf(t));
    }

    private static void dueRun(String want, int... code) {
        Checks.due("run of " + java.util.Arrays.toString(code), want, () -> Checks.runOf(Checks.converted(code)));
    }

    private static void dueConvert(Object want, int... code) {
        Checks.due("convert of " + java.util.Arrays.toString(code), want, () -> Checks.typed(code).convert());
    }

    /** Of the code: what a pass answers, and what is written then. */
    private static void duePass(int steps, String written, int... code) {
        TermSimplifier t = Checks.converted(code);
        Checks.due("pass of " + java.util.Arrays.toString(code), steps, t::pass);
        dueWritten(written, t);
    }

    private static void newObject() {
        TermSimplifier t = new TermSimplifier();
        Checks.due("pass", Checks.NO_PROGRAM, t::pass);
        Checks.due("simplify", Checks.NO_PROGRAM, t::simplify);
        Checks.due("run", Checks.NO_PROGRAM, t::run);
        Checks.due("written(0)", Checks.NOTHING_SUCH, () -> t.written(0));
        dueCounts("0 0 0 0 0 0", t);
        Checks.due("ran", "0 0 0 0", () -> Checks.ranOf(t));
        Checks.due("convert", Checks.NO_TERM, t::convert);
        Checks.type(t, ZERO);
        Checks.due("convert", 0, t::convert);
        dueCounts("0 0 0 0 0 0", new TermSimplifier());
    }

    private static void typing() {
        int[] sixty = Checks.code(Checks.of(2, 0), Checks.times(14, 5, 0, 0, 1), Checks.of(0, 1));
        TermSimplifier t = Checks.typed(sixty);
        Checks.due("61st type", false, () -> t.type(0));
        Checks.due("62nd type", false, () -> t.type(7));
        Checks.due("convert of 60 ints", 15, t::convert);
        Checks.type(t, 0, Integer.MIN_VALUE);
        Checks.due("convert", 0, t::convert);
        dueWritten("9 0 -2147483648", t);
        Checks.type(t, Checks.times(30, 0, Integer.MAX_VALUE));
        Checks.due("61st type", false, () -> t.type(0));
        Checks.due("convert", Checks.NO_TERM, t::convert);
        Checks.due("type", true, () -> t.type(0));
    }

    private static void convertingToRows() {
        TermSimplifier apply = Checks.converted(3, 3, 2, 0, 2, 1, 1, 0, 0, 5, 0, 6);
        dueWritten("8 3 2 0 8 2 2 1 9 1 0 9 1 2 8 4 3 1 3 0 5 8 5 3 1 4 0 6 9 1 5", apply);
        dueCounts("0 0 0 0 4 6", apply);
        TermSimplifier choice = Checks.converted(6, 5, 4, 0, 1, 0, 2, 5, 1, 0, 3, 0, 4, 6, 0, 5, 0, 6, 0, 7);
        dueWritten("8 0 5 4 0 1 0 2 8 3 6 1 0 8 1 5 1 0 3 0 4 9 1 1 8 2 6 0 5 9 0 6 9 0 7 9 1 2 9 1 3", choice);
        dueCounts("0 0 0 0 4 4", choice);
        Checks.due("convert of a number", 0, () -> Checks.typed(0, -1).convert());
        dueWritten("9 0 -1", Checks.converted(0, -1));
    }

    private static void convertingNames() {
        // The LET's own t does not see its variable; the innermost counts, and only inside.
        dueWritten("8 0 5 0 0 1 0 2 8 1 5 2 1 0 1 0 9 1 1", Checks.converted(4, 9, 5, 0, 0, 1, 0, 2, 5, 2, 1, 9, 1, 9));
        dueWritten("9 0 2", Checks.converted(4, 0, 0, 1, 4, 0, 0, 2, 1, 0));
        dueWritten("8 0 5 1 0 2 0 1 9 1 0", Checks.converted(4, 0, 0, 1, 5, 1, 4, 0, 0, 2, 1, 0, 1, 0));
        dueWritten("8 3 2 0 8 2 2 1 9 1 1 9 1 2 9 1 3", Checks.converted(2, 5, 2, 5, 1, 5));
        dueWritten("8 1 2 0 9 1 0 8 2 3 1 1 0 3 9 1 2", Checks.converted(4, 5, 0, 3, 3, 2, 5, 1, 5, 1, 5));
        dueWritten("9 0 1", Checks.converted(4, 0, 0, 1, 4, 0, 1, 0, 1, 0));
    }

    private static void convertingWhatIsNoTerm() {
        int[][] wrong = {
            {}, {0}, {1}, {2}, {2, 0}, {3}, {3, 0, 1}, {4, 0}, {4, 0, 0, 1}, {5}, {5, 0}, {5, 0, 0, 1}, {6, 0, 1, 0, 2},
            {7}, {7, 0}, {-1}, {8, 0, 0}, {Integer.MIN_VALUE, 0}, {Integer.MAX_VALUE, 0},
            {0, 1, 0}, {0, 1, 0, 1}, {2, 0, 1, 0, 1, 0},
            {2, 10, 0, 0}, {2, -1, 0, 0}, {4, 10, 0, 0, 0, 0}, {4, -1, 0, 0, 0, 0}, {5, 5, 0, 0, 0, 0}, {5, -1, 0, 0, 0, 0},
            {1, 0}, {1, 10}, {2, 0, 1, 1}, {2, 0, 1, 10}, {2, 0, 1, -1}, {4, 0, 1, 0, 0, 0}, {3, 2, 0, 1, 0, 1, 0},
            {5, 0, 4, 0, 0, 1, 1, 0, 1, 0}, {6, 2, 0, 0, 0, 1, 0, 0, 0},
        };
        for (int[] code : wrong) {
            dueConvert(Checks.NO_TERM, code);
        }
        for (int kind = 0; kind <= 6; kind++) {
            dueConvert(Checks.NO_TERM, Checks.times(60, kind));
        }
        TermSimplifier t = Checks.converted(5, 0, 0, 1, 0, 2);
        t.pass();
        Checks.type(t, 1, 0);
        Checks.due("convert", Checks.NO_TERM, t::convert);
        dueCounts("1 0 0 0 0 1", t);
        dueWritten("9 0 3", t);
        Checks.due("convert of the code that is empty now", Checks.NO_TERM, t::convert);
        Checks.type(t, 0, 9);
        Checks.due("convert", 0, t::convert);
        dueWritten("9 0 9", t);
    }

    private static void convertingTooDeep() {
        dueConvert(8, Checks.code(Checks.times(8, 2, 0), ZERO));
        dueConvert(Checks.TOO_DEEP, Checks.code(Checks.times(9, 2, 0), ZERO));
        dueConvert(8, Checks.code(Checks.times(8, 6, 0, 1, 0, 2), ZERO));
        dueConvert(Checks.TOO_DEEP, Checks.code(Checks.times(9, 6, 0, 1, 0, 2), ZERO));
        dueConvert(8, Checks.code(Checks.of(6, 0, 1), Checks.times(7, 2, 0), ZERO, ZERO));
        dueConvert(Checks.TOO_DEEP, Checks.code(Checks.of(6, 0, 1), Checks.times(8, 2, 0), ZERO, ZERO));
        // The condition, and both terms of a LET, lie in the row that is there.
        dueConvert(9, Checks.code(Checks.of(6), Checks.times(8, 2, 0), ZERO, ZERO, ZERO));
        dueConvert(8, Checks.code(Checks.of(4, 0), Checks.times(8, 2, 0), ZERO, ZERO));
        dueConvert(16, Checks.code(Checks.of(4, 0), Checks.times(8, 2, 0), ZERO, Checks.times(8, 2, 0), ZERO));
        // A free variable comes first, wherever it stands.
        dueConvert(Checks.NO_TERM, Checks.code(Checks.times(9, 2, 0), Checks.of(1, 1)));
        dueConvert(Checks.NO_TERM, Checks.code(Checks.of(3), Checks.times(9, 2, 0), ZERO, Checks.of(1, 1)));
        dueConvert(Checks.TOO_DEEP, Checks.code(Checks.times(29, 2, 0), ZERO));
        TermSimplifier t = Checks.converted(5, 0, 0, 1, 0, 2);
        t.pass();
        Checks.type(t, Checks.code(Checks.times(9, 2, 0), ZERO));
        Checks.due("convert", Checks.TOO_DEEP, t::convert);
        dueCounts("1 0 0 0 0 1", t);
        dueWritten("9 0 3", t);
        Checks.due("convert of the code that is empty now", Checks.NO_TERM, t::convert);
    }

    private static void passesOfFoldsAndChoices() {
        int min = Integer.MIN_VALUE;
        int max = Integer.MAX_VALUE;
        duePass(1, "9 0 -2147483648", 5, 0, 0, max, 0, 1);
        duePass(1, "9 0 2147483647", 5, 1, 0, min, 0, 1);
        duePass(1, "9 0 0", 5, 2, 0, 65536, 0, 65536);
        duePass(1, "9 0 -3", 5, 3, 0, -7, 0, 2);
        duePass(1, "9 0 -2147483648", 5, 3, 0, min, 0, -1);
        duePass(1, "9 0 1", 5, 4, 0, min, 0, max);
        duePass(1, "9 0 0", 5, 4, 0, 2, 0, 2);
        duePass(0, "8 0 5 3 0 7 0 0 9 1 0", 5, 3, 0, 7, 0, 0);
        duePass(1, "9 0 0", 5, 2, 0, 0, 0, 7);
        // A name in it: the sum must wait.
        duePass(1, "8 0 5 3 0 1 0 0 8 2 5 0 1 0 0 5 9 1 2", 5, 0, 5, 3, 0, 1, 0, 0, 5, 0, 0, 2, 0, 3);
        duePass(1, "9 0 4", 6, 0, -1, 0, 4, 0, 5);
        duePass(1, "9 0 5", 6, 0, 0, 0, 4, 0, 5);
        // The chosen bindings are gone over in the same pass, and what stands behind them too.
        duePass(4, "9 0 13", 5, 0, 6, 0, 1, 5, 0, 0, 1, 0, 2, 5, 3, 0, 1, 0, 0, 5, 2, 0, 2, 0, 5);
        // An IF of a name stays; its rows are gone over, the first and the second.
        duePass(2, "8 0 5 3 0 1 0 0 8 3 6 1 0 9 0 2 9 0 4 9 1 3", 6, 5, 3, 0, 1, 0, 0, 5, 0, 0, 1, 0, 1, 5, 0, 0, 2, 0, 2);
    }

    private static void passesOfFunctions() {
        duePass(1, "9 0 7", 4, 0, 2, 1, 1, 1, 0, 7);
        duePass(0, "8 1 2 0 9 1 0 9 1 1", 2, 0, 1, 0);
        duePass(1, "8 2 2 0 9 0 3 9 1 2", 2, 0, 5, 0, 0, 1, 0, 2);
        // Used once: p stands for the argument, also where it is the result.
        duePass(1, "9 0 7", 3, 2, 0, 1, 0, 0, 7);
        duePass(1, "8 3 2 2 9 1 2 9 1 3", 3, 2, 0, 1, 0, 2, 0, 1, 0);
        duePass(2, "9 0 42", 3, 2, 0, 5, 0, 1, 0, 0, 1, 0, 41);
        // Used twice: not put anywhere, neither if one of the two is the result or the argument.
        duePass(0, "8 1 2 0 9 1 0 8 2 3 1 1 0 1 8 3 3 1 1 1 2 9 1 3", 4, 0, 2, 1, 1, 1, 3, 1, 0, 3, 1, 0, 0, 1);
        duePass(0, "8 1 2 0 9 1 0 8 2 3 1 1 1 1 9 1 2", 4, 0, 2, 1, 1, 1, 3, 1, 0, 1, 0);
        // APPLY of a number, of a parameter, of what is no FUN: nothing.
        duePass(0, "8 0 3 0 1 0 2 9 1 0", 3, 0, 1, 0, 2);
        duePass(0, "8 2 2 0 8 1 3 1 0 0 2 9 1 1 9 1 2", 2, 0, 3, 1, 0, 0, 2);
        duePass(0, "8 0 5 3 0 1 0 0 8 1 3 1 0 0 2 9 1 1", 3, 5, 3, 0, 1, 0, 0, 0, 2);
        // A function that is not used is thrown away, and what occurs in it does not occur any more.
        duePass(2, "9 0 7", 4, 0, 2, 1, 1, 1, 4, 2, 2, 3, 3, 1, 0, 1, 3, 3, 1, 0, 0, 7);
        // What is no function stays, though its name does not occur.
        duePass(0, "8 0 3 0 1 0 2 9 0 5", 4, 0, 3, 0, 1, 0, 2, 0, 5);
        // A function that came as an argument is put in place in the same pass.
        duePass(2, "9 0 8", 3, 2, 0, 3, 1, 0, 0, 8, 2, 1, 1, 1);
    }

    private static void passesInRowsAround() {
        // f is used once, inside g: it goes there, and the pass goes on behind g, at the sum.
        duePass(2, "8 5 2 3 8 1 5 0 1 3 0 1 9 1 1 8 7 3 1 5 0 3 8 8 3 1 5 0 5 8 9 5 0 1 7 1 8 9 1 9",
            4, 0, 2, 1, 5, 0, 1, 1, 0, 1, 4, 2, 2, 3, 3, 1, 0, 1, 3,
            5, 0, 3, 1, 2, 5, 0, 0, 1, 0, 2, 3, 1, 2, 0, 5);
        // Likewise two rows further in, in the second row of an IF, with a sum behind each.
        duePass(3, "8 8 2 3 8 7 6 1 3 9 0 1 8 1 5 0 1 3 0 1 8 6 5 0 1 1 0 5 9 1 6 9 1 7 8 9 3 1 8 1 8 8 11 5 0 1 9 0 4 9 1 11",
            4, 0, 2, 1, 5, 0, 1, 1, 0, 1,
            4, 2, 2, 3, 6, 1, 3, 0, 1, 5, 0, 3, 1, 0, 1, 3, 5, 0, 0, 2, 0, 3,
            5, 0, 3, 1, 2, 1, 2, 5, 0, 0, 2, 0, 2);
    }

    private static void simplifying() {
        TermSimplifier number = Checks.converted(0, 5);
        Checks.due("simplify", 1, number::simplify);
        // The function is used in a row that is not chosen, so that the second pass alone can throw it away.
        int[] late = {4, 0, 2, 1, 1, 1, 6, 0, 0, 3, 1, 0, 0, 1, 0, 2};
        TermSimplifier t = Checks.converted(late);
        Checks.due("simplify", 3, t::simplify);
        dueCounts("0 1 0 1 0 4", t);
        dueWritten("9 0 2", t);
        Checks.due("simplify again", 1, t::simplify);
        Checks.due("pass", 0, t::pass);
        TermSimplifier byPasses = Checks.converted(late);
        Checks.due("first pass", 1, byPasses::pass);
        Checks.due("second pass", 1, byPasses::pass);
        Checks.due("third pass", 0, byPasses::pass);
        // x x, applied to itself: one function is put in place, then the other is used twice.
        TermSimplifier endless = Checks.converted(3, 2, 0, 3, 1, 0, 1, 0, 2, 0, 3, 1, 0, 1, 0);
        Checks.due("simplify", 2, endless::simplify);
        dueWritten("8 5 2 3 8 4 3 1 3 1 3 9 1 4 8 1 3 1 5 1 5 9 1 1", endless);
    }

    private static void counting() {
        TermSimplifier t = Checks.converted(4, 0, 2, 1, 5, 0, 1, 1, 0, 1, 6, 0, 1, 3, 1, 0, 0, 41, 0, 0);
        dueCounts("0 0 0 0 4 5", t);
        t.pass();
        dueCounts("1 1 1 0 0 5", t);
        Checks.type(t, 4, 0, 2, 1, 1, 1, 0, 7);
        dueCounts("1 1 1 0 0 5", t);
        t.convert();
        dueCounts("0 0 0 0 1 2", t);
        t.simplify();
        dueCounts("0 0 0 1 0 2", t);
        for (TermSimplifier each : new TermSimplifier[] {t, new TermSimplifier()}) {
            for (int what : new int[] {-1, 6, 7, Integer.MIN_VALUE, Integer.MAX_VALUE}) {
                Checks.due("count(" + what + ")", Checks.NOTHING_SUCH, () -> each.count(what));
            }
        }
    }

    private static void writing() {
        TermSimplifier t = Checks.converted(5, 4, 0, -3, 0, 4);
        dueWritten("8 0 5 4 0 -3 0 4 9 1 0", t);
        Checks.due("written(10)", 0, () -> t.written(10));
        for (int k : new int[] {11, 12, -1, Integer.MIN_VALUE, Integer.MAX_VALUE}) {
            Checks.due("written(" + k + ")", Checks.NOTHING_SUCH, () -> t.written(k));
        }
        t.pass();
        dueWritten("9 0 1", t);
        Checks.due("written(3)", Checks.NOTHING_SUCH, () -> t.written(3));
        Checks.type(t, 2, 0, 3, 1, 0, 1, 0);
        dueWritten("9 0 1", t);
        t.convert();
        dueWritten("8 2 2 0 8 1 3 1 0 1 0 9 1 1 9 1 2", t);
    }

    private static void runningToTheEnd() {
        dueRun("0: -5 0 0 0", 0, -5);
        dueRun("0: 0 1 1 0", 2, 0, 1, 0);
        dueRun("0: 4 0 1 1", 6, 0, -1, 0, 4, 0, 5);
        dueRun("0: 5 0 1 1", 6, 0, 0, 0, 4, 0, 5);
        dueRun("0: -2147483648 0 1 0", 5, 3, 0, Integer.MIN_VALUE, 0, -1);
        dueRun("0: -2147483648 0 1 0", 5, 0, 0, Integer.MAX_VALUE, 0, 1);
        dueRun("0: 2147483647 0 1 0", 5, 1, 0, Integer.MIN_VALUE, 0, 1);
        dueRun("0: -2 0 1 0", 5, 2, 0, Integer.MAX_VALUE, 0, 2);
        dueRun("0: -3 0 1 0", 5, 3, 0, -7, 0, 2);
        dueRun("0: 1 0 1 0", 5, 4, 0, Integer.MIN_VALUE, 0, Integer.MAX_VALUE);
        dueRun("0: 0 0 1 0", 5, 4, 0, 3, 0, 3);
        // Each function keeps the values that were seen when it was made: (20 - 3) - (10 - 3).
        dueRun("0: 10 0 10 1", 4, 0, 2, 1, 2, 2, 5, 1, 1, 1, 1, 2, 4, 3, 3, 1, 0, 0, 10, 4, 4, 3, 1, 0, 0, 20,
            5, 1, 3, 1, 4, 0, 3, 3, 1, 3, 0, 3);
        // A row that is not chosen makes no error.
        dueRun("0: 5 0 1 1", 6, 0, 1, 0, 5, 5, 3, 0, 1, 0, 0);
        TermSimplifier t = Checks.converted(3, 2, 0, 5, 0, 1, 0, 0, 1, 0, 41);
        Checks.due("run", "0: 42 0 3 1", () -> Checks.runOf(t));
        Checks.due("run again", "0: 42 0 3 1", () -> Checks.runOf(t));
        t.simplify();
        Checks.due("run of what is left", "0: 42 0 0 0", () -> Checks.runOf(t));
    }

    private static void runningIntoErrors() {
        dueRun("1: 0 0 1 0", 3, 0, 1, 0, 2);
        dueRun("1: 0 0 2 0", 3, 0, 1, 2, 0, 1, 0);
        dueRun("2: 0 0 2 0", 5, 0, 2, 0, 1, 0, 0, 1);
        dueRun("2: 0 0 2 0", 5, 3, 2, 0, 1, 0, 0, 0);
        dueRun("2: 0 0 2 0", 5, 3, 0, 1, 2, 0, 1, 0);
        dueRun("2: 0 0 2 0", 6, 2, 0, 1, 0, 0, 1, 0, 2);
        dueRun("3: 0 0 1 0", 5, 3, 0, 1, 0, 0);
        dueRun("3: 0 0 1 0", 5, 3, 0, 0, 0, 0);
        dueRun("3: 0 0 3 1", 3, 2, 0, 5, 3, 0, 1, 1, 0, 0, 0);
        // The first error ends the run: nothing behind it is begun.
        dueRun("3: 0 0 1 0", 5, 0, 5, 3, 0, 1, 0, 0, 3, 0, 1, 0, 2);
        // A binding whose name does not occur is worked out all the same.
        dueRun("3: 0 0 1 0", 4, 0, 5, 3, 0, 1, 0, 0, 0, 7);
        for (int[] code : new int[][] {{3, 0, 1, 0, 2}, {5, 0, 2, 0, 1, 0, 0, 1}, {5, 3, 0, 1, 0, 0}}) {
            TermSimplifier t = Checks.converted(code);
            int ending = t.run();
            t.simplify();
            Checks.due("run of what is left", ending, t::run);
        }
    }

    private static int[] countDown(int n, int... base) {
        int[] function = java.util.Arrays.copyOf(COUNT_DOWN, COUNT_DOWN.length - 2);
        return Checks.code(Checks.of(4, 0), function, base, Checks.of(3, 3, 1, 0, 1, 0, 0, n));
    }

    /** Adds 1 to 0 128 times, by 399 bindings; before and behind it what stands around it. */
    private static int[] manyTimes(int[] before, int[] behind) {
        return Checks.code(Checks.of(4, 0), TWICE, before, Checks.of(3), Checks.times(7, 3, 1, 0), SUCCESSOR, ZERO, behind);
    }

    private static void runningIntoLimits() {
        dueRun("0: 0 0 30 12", countDown(5, ZERO));
        dueRun("4: 0 0 31 12", countDown(6, ZERO));
        dueRun("0: 0 0 26 11", Checks.code(Checks.of(6, 0, 1), countDown(4, ZERO), ZERO));
        dueRun("4: 0 0 31 12", Checks.code(Checks.of(6, 0, 1), countDown(5, ZERO), ZERO));
        // In the 12th row: what needs no row of its own, and what ends before it has one.
        dueRun("0: 3 0 31 12", countDown(5, 5, 0, 0, 1, 0, 2));
        dueRun("1: 0 0 31 12", countDown(5, 3, 0, 1, 0, 2));
        dueRun("2: 0 0 32 12", countDown(5, 6, 2, 3, 0, 0, 0, 0, 0, 0));
        dueRun("4: 0 0 31 12", countDown(5, 6, 0, 1, 0, 0, 0, 0));

        int[] none = {};
        int[] one = {0, 1};
        dueRun("0: 128 0 399 8", manyTimes(none, none));
        dueRun("0: 129 0 400 8", manyTimes(Checks.of(5, 0), one));
        dueRun("3: 0 0 400 8", manyTimes(Checks.of(5, 3), ZERO));
        dueRun("5: 0 0 400 8", manyTimes(Checks.of(5, 0, 5, 0), Checks.code(one, one)));
        dueRun("0: 7 0 400 8", manyTimes(Checks.of(6), Checks.of(0, 7, 0, 0)));
        dueRun("5: 0 0 400 8", manyTimes(Checks.of(6), Checks.of(5, 0, 0, 1, 0, 1, 0, 0)));
        // The 401st binding is not looked at any further: neither / by 0 nor APPLY of an int.
        dueRun("5: 0 0 400 8", manyTimes(Checks.of(5, 3, 5, 0), Checks.code(one, ZERO)));
        dueRun("5: 0 0 400 8", manyTimes(Checks.of(3, 5, 0), Checks.code(one, one)));
    }

    private static void whatIsKeptOfRuns() {
        TermSimplifier t = Checks.converted(3, 2, 0, 5, 0, 1, 0, 0, 1, 0, 41);
        Checks.due("ran before a run", "0 0 0 0", () -> Checks.ranOf(t));
        t.run();
        Checks.due("ran", "42 0 3 1", () -> Checks.ranOf(t));
        t.simplify();
        Checks.due("convert of no code", Checks.NO_TERM, t::convert);
        Checks.type(t, 5, 3, 0, 1, 0, 0);
        t.convert();
        t.pass();
        Checks.due("ran, whatever came since", "42 0 3 1", () -> Checks.ranOf(t));
        t.run();
        Checks.due("ran of an error", "0 0 1 0", () -> Checks.ranOf(t));
        Checks.type(t, 2, 0, 1, 0);
        t.convert();
        t.run();
        Checks.due("ran of a function", "0 1 1 0", () -> Checks.ranOf(t));
        Checks.type(t, 3, 0, 1, 0, 1);
        t.convert();
        t.run();
        Checks.due("ran of an error", "0 0 1 0", () -> Checks.ranOf(t));
        for (int what : new int[] {-1, 4, 5, Integer.MIN_VALUE, Integer.MAX_VALUE}) {
            Checks.due("ran(" + what + ")", Checks.NOTHING_SUCH, () -> t.ran(what));
            Checks.due("ran(" + what + ")", Checks.NOTHING_SUCH, () -> new TermSimplifier().ran(what));
        }
    }
}
