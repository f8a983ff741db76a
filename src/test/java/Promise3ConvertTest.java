import java.util.Arrays;

/** Promise 3, and what the document says of code, of terms and of how they are converted. */
public final class Promise3ConvertTest {
    private static final int[] EVERY_KIND = {4, 0, 2, 1, 5, 0, 1, 1, 0, 7, 6, 0, 1, 3, 1, 0, 0, 2, 1, 0};

    public static void main(String[] args) {
        theCodeBecomesTheProgram();
        theCodeIsEmptyThen();
        howManyBindings();
        anyInt();
        variables0To9();
        operations0To4();
        kinds0To6();
        atMost60Ints();
        justOneTerm();
        variablesStandInWhatBindsThem();
        theInnermostCounts();
        noTermLeavesTheProgram();
        moreThan8Deep();
        theProgramsRowIsNotCounted();
        noTermComesBeforeTooDeep();
        tooDeepLeavesTheProgram();
        namesAreNumberedAnew();
        convertedByKind();
        Checks.end();
    }

    private static void theCodeBecomesTheProgram() {
        Checks.sentence(3, "The code becomes the program");
        TermSimplifier t = Checks.converted(Samples.CALL);
        t.run();
        t.simplify();
        Checks.type(t, Samples.SUM);
        Checks.dueWritten("9 0 42", t);
        Checks.due("convert", 1, t::convert);
        Checks.dueWritten("8 0 5 0 0 1 0 2 9 1 0", t);
        Checks.type(t, Samples.ZERO);
        Checks.due("convert", 0, t::convert);
        Checks.dueWritten("9 0 0", t);
    }

    private static void theCodeIsEmptyThen() {
        Checks.sentence(3, "and is empty then");
        TermSimplifier t = Checks.converted(Samples.SUM);
        Checks.due("convert of what is empty now", Checks.NO_TERM, t::convert);
        Checks.type(t, 0, 9);
        Checks.due("convert of the next code", 0, t::convert);
        Checks.dueWritten("9 0 9", t);
    }

    private static void howManyBindings() {
        Checks.sentence(3, "how many bindings the program has, in all rows");
        Checks.dueConvert(0, 0, 5);
        Checks.dueConvert(0, 4, 0, 0, 5, 1, 0);
        Checks.dueConvert(1, Samples.SUM);
        Checks.dueConvert(2, 2, 0, 5, 0, 1, 0, 0, 1);
        Checks.dueConvert(4, 6, 5, 0, 0, 1, 0, 1, 5, 0, 0, 2, 0, 2, 5, 0, 0, 3, 0, 3);
        Checks.dueConvert(8, Samples.functions(8));
        // 23 functions and 4 applications in 60 ints.
        Checks.dueConvert(27, Checks.code(Checks.of(3, 3, 3, 3), Samples.functions(8), Samples.functions(8),
            Samples.functions(7), Samples.ZERO, Samples.ZERO));
    }

    private static void anyInt() {
        Checks.sentence(3, "0 n: the NUMBER n (any int)");
        for (int n : new int[] {0, -1, 10, Integer.MIN_VALUE, Integer.MAX_VALUE}) {
            Checks.dueConvert(0, 0, n);
            Checks.dueWritten("8 0 5 0 0 " + n + " 0 " + n + " 9 1 0", Checks.converted(5, 0, 0, n, 0, n));
        }
    }

    private static void variables0To9() {
        Checks.sentence(3, "1 x: the VARIABLE x (0 .. 9)");
        for (int x : new int[] {0, 9}) {
            Checks.dueConvert(1, 2, x, 1, x);
            Checks.dueConvert(0, 4, x, 0, 5, 1, x);
        }
        for (int x : new int[] {-1, 10, Integer.MIN_VALUE, Integer.MAX_VALUE}) {
            Checks.dueConvert(Checks.NO_TERM, 1, x);
            Checks.dueConvert(Checks.NO_TERM, 2, x, 0, 0);
            Checks.dueConvert(Checks.NO_TERM, 2, x, 1, x);
            Checks.dueConvert(Checks.NO_TERM, 2, 0, 1, x);
            Checks.dueConvert(Checks.NO_TERM, 4, x, 0, 5, 0, 6);
            Checks.dueConvert(Checks.NO_TERM, 4, x, 0, 5, 1, x);
        }
    }

    private static void operations0To4() {
        Checks.sentence(3, "5 o t u: OP o (0 +, 1 -, 2 *, 3 /, 4 <) of two terms");
        for (int o = 0; o <= 4; o++) {
            Checks.dueWritten("8 0 5 " + o + " 0 8 0 9 9 1 0", Checks.converted(5, o, 0, 8, 0, 9));
        }
        for (int o : new int[] {-1, 5, 6, Integer.MIN_VALUE, Integer.MAX_VALUE}) {
            Checks.dueConvert(Checks.NO_TERM, 5, o, 0, 8, 0, 9);
        }
    }

    private static void kinds0To6() {
        Checks.sentence(3, "A TERM is written as CODE");
        for (int kind : new int[] {-1, 7, 8, 9, Integer.MIN_VALUE, Integer.MAX_VALUE}) {
            Checks.dueConvert(Checks.NO_TERM, kind);
            Checks.dueConvert(Checks.NO_TERM, kind, 0);
            Checks.dueConvert(Checks.NO_TERM, kind, 0, 0);
            Checks.dueConvert(Checks.NO_TERM, kind, 0, 0, 0, 0);
            Checks.dueConvert(Checks.NO_TERM, 2, 0, kind, 0);
        }
    }

    private static void atMost60Ints() {
        Checks.sentence(3, "a row of at most 60 ints, its first one first");
        Checks.dueConvert(14, Checks.code(Checks.times(14, 5, 0, 0, 1), Samples.ONE));
        Checks.dueConvert(15, Checks.code(Checks.of(2, 0), Checks.times(14, 5, 0, 0, 1), Samples.ONE));
        for (int kind = 0; kind <= 6; kind++) {
            Checks.dueConvert(Checks.NO_TERM, Checks.times(60, kind));
            // The last of the 60 begins a term that would go on behind them.
            Checks.dueConvert(Checks.NO_TERM, Checks.code(Checks.times(59, 3), Checks.of(kind)));
            Checks.dueConvert(Checks.NO_TERM, Checks.code(Checks.times(28, 2, 0), Checks.of(3, 0, 5, kind)));
        }
    }

    private static void justOneTerm() {
        Checks.sentence(3, "The code is a term if it is just one");
        Checks.dueConvert(Checks.NO_TERM, Samples.NONE);
        Checks.dueConvert(4, EVERY_KIND);
        for (int length = 0; length < EVERY_KIND.length; length++) {
            Checks.dueConvert(Checks.NO_TERM, Arrays.copyOf(EVERY_KIND, length));
        }
        int[][] terms = {{0, 5}, {2, 0, 1, 0}, {3, 0, 1, 0, 2}, {4, 0, 0, 1, 1, 0}, Samples.SUM, {6, 0, 1, 0, 2, 0, 3}, EVERY_KIND};
        for (int[] term : terms) {
            Checks.dueConvert(Checks.NO_TERM, Arrays.copyOf(term, term.length - 1));
            Checks.dueConvert(Checks.NO_TERM, Checks.code(term, Checks.of(0)));
            Checks.dueConvert(Checks.NO_TERM, Checks.code(term, Samples.ZERO));
            Checks.dueConvert(Checks.NO_TERM, Checks.code(term, Checks.of(2, 0)));
            Checks.dueConvert(Checks.NO_TERM, Checks.code(term, Checks.of(3, 0, 5)));
            Checks.dueConvert(Checks.NO_TERM, Checks.code(term, term));
        }
        // One term less than the kind has, and one more.
        Checks.dueConvert(Checks.NO_TERM, 3, 0, 1);
        Checks.dueConvert(Checks.NO_TERM, 3, 0, 1, 0, 2, 0, 3);
        Checks.dueConvert(Checks.NO_TERM, 6, 0, 1, 0, 2);
        Checks.dueConvert(Checks.NO_TERM, 6, 0, 1, 0, 2, 0, 3, 0, 4);
    }

    private static void variablesStandInWhatBindsThem() {
        Checks.sentence(3, "each of its variables stands in a FUN of it or in the u of a LET of it");
        Checks.dueConvert(1, 2, 3, 1, 3);
        Checks.dueConvert(2, 2, 3, 2, 4, 1, 3);
        Checks.dueConvert(0, 4, 3, 0, 1, 1, 3);
        Checks.dueConvert(1, 4, 3, 0, 1, 2, 4, 1, 3);
        Checks.dueConvert(1, 4, 3, 0, 1, 6, 1, 3, 1, 3, 1, 3);
        // Bound nowhere; another one bound; in the t of the LET; behind the FUN; behind the LET; before them.
        Checks.dueConvert(Checks.NO_TERM, 1, 0);
        Checks.dueConvert(Checks.NO_TERM, 2, 0, 1, 1);
        Checks.dueConvert(Checks.NO_TERM, 4, 0, 0, 5, 1, 1);
        Checks.dueConvert(Checks.NO_TERM, 4, 0, 1, 0, 0, 5);
        Checks.dueConvert(Checks.NO_TERM, 4, 0, 1, 0, 1, 0);
        Checks.dueConvert(Checks.NO_TERM, 3, 2, 0, 1, 0, 1, 0);
        Checks.dueConvert(Checks.NO_TERM, 3, 1, 0, 2, 0, 1, 0);
        Checks.dueConvert(Checks.NO_TERM, 5, 0, 4, 0, 0, 1, 1, 0, 1, 0);
        Checks.dueConvert(Checks.NO_TERM, 6, 2, 0, 0, 0, 1, 0, 0, 0);
        Checks.dueConvert(Checks.NO_TERM, 6, 0, 0, 2, 0, 0, 0, 1, 0);
        // A variable of the code before it does not stand in this one.
        TermSimplifier t = Checks.converted(4, 0, 0, 5, 1, 0);
        Checks.type(t, 1, 0);
        Checks.due("convert", Checks.NO_TERM, t::convert);
        Checks.type(t, 2, 0, 1, 1);
        Checks.due("convert", Checks.NO_TERM, t::convert);
        Checks.type(t, 1, 0);
        Checks.due("convert", Checks.NO_TERM, t::convert);
    }

    private static void theInnermostCounts() {
        Checks.sentence(3, "(the innermost counts)");
        Checks.dueWritten("9 0 2", Checks.converted(4, 0, 0, 1, 4, 0, 0, 2, 1, 0));
        Checks.dueWritten("8 3 2 0 8 2 2 1 9 1 1 9 1 2 9 1 3", Checks.converted(2, 5, 2, 5, 1, 5));
        Checks.dueWritten("8 1 2 0 9 0 7 9 1 1", Checks.converted(2, 5, 4, 5, 0, 7, 1, 5));
        Checks.dueWritten("8 1 2 0 9 1 0 9 1 1", Checks.converted(4, 5, 0, 7, 2, 5, 1, 5));
        // Behind the inner one the outer one counts again; in the t of the inner LET it still does.
        Checks.dueWritten("8 0 5 1 0 2 0 1 9 1 0", Checks.converted(4, 0, 0, 1, 5, 1, 4, 0, 0, 2, 1, 0, 1, 0));
        Checks.dueWritten("8 1 2 0 9 1 0 8 2 3 1 1 0 3 9 1 2", Checks.converted(4, 5, 0, 3, 3, 2, 5, 1, 5, 1, 5));
        Checks.dueWritten("9 0 1", Checks.converted(4, 0, 0, 1, 4, 0, 1, 0, 1, 0));
    }

    /** A run, a pass, and a code that is refused: all is as it was, and the code is empty. */
    private static void dueUnchanged(String answer, int... refused) {
        TermSimplifier t = Checks.converted(Samples.CALL);
        t.run();
        t.pass();
        Checks.type(t, refused);
        Checks.due("convert of " + Arrays.toString(refused), answer, t::convert);
        Checks.dueWritten("9 0 42", t);
        Checks.dueCounts("1 0 1 0 0 4", t);
        Checks.dueRan("42 0 3 1", t);
        Checks.due("run", "0: 42 0 0 0", () -> Checks.runOf(t));
        Checks.due("pass", 0, t::pass);
        Checks.due("convert of what is empty now", Checks.NO_TERM, t::convert);
        Checks.type(t, Samples.SUM);
        Checks.due("convert of the next code", 1, t::convert);
    }

    private static void dueNoProgram(String answer, int... refused) {
        TermSimplifier t = Checks.typed(refused);
        Checks.due("convert of " + Arrays.toString(refused), answer, t::convert);
        Checks.due("pass", Checks.NO_PROGRAM, t::pass);
        Checks.due("run", Checks.NO_PROGRAM, t::run);
        Checks.dueCounts("0 0 0 0 0 0", t);
        Checks.due("written(0)", Checks.NOTHING_SUCH, () -> t.written(0));
        Checks.due("convert of what is empty now", Checks.NO_TERM, t::convert);
    }

    private static void noTermLeavesTheProgram() {
        Checks.sentence(3, "Throws IllegalArgumentException when it is no term (then it is empty, too; the program of before stays)");
        int[][] wrong = {{}, {0}, {7}, {1, 0}, {0, 1, 0}, {5, 5, 0, 0, 0, 0}, {2, 0, 1, 1}, {3, 2, 0, 1, 0, 1, 0}, Checks.times(60, 0)};
        for (int[] code : wrong) {
            dueUnchanged(Checks.NO_TERM, code);
            dueNoProgram(Checks.NO_TERM, code);
        }
    }

    private static void moreThan8Deep() {
        Checks.sentence(3, "otherwise UnsupportedOperationException when rows would lie more than 8 deep in one another");
        Checks.dueConvert(8, Samples.functions(8));
        Checks.dueConvert(Checks.TOO_DEEP, Samples.functions(9));
        Checks.dueConvert(Checks.TOO_DEEP, Samples.functions(29));
        Checks.dueConvert(8, Samples.firstRows(8));
        Checks.dueConvert(Checks.TOO_DEEP, Samples.firstRows(9));
        Checks.dueConvert(8, Samples.secondRows(8));
        Checks.dueConvert(Checks.TOO_DEEP, Samples.secondRows(9));
        Checks.dueConvert(8, Checks.code(Checks.of(6, 0, 1), Samples.functions(7), Samples.ZERO));
        Checks.dueConvert(Checks.TOO_DEEP, Checks.code(Checks.of(6, 0, 1), Samples.functions(8), Samples.ZERO));
        Checks.dueConvert(8, Checks.code(Checks.times(4, 2, 0), Samples.secondRows(4)));
        Checks.dueConvert(Checks.TOO_DEEP, Checks.code(Checks.times(5, 2, 0), Samples.secondRows(4)));
        // Too deep in the last part alone.
        Checks.dueConvert(Checks.TOO_DEEP, Checks.code(Checks.of(5, 0, 0, 1), Samples.functions(9)));
        // Rows beside one another do not lie in one another.
        Checks.dueConvert(17, Checks.code(Checks.of(3), Samples.functions(8), Samples.functions(8)));
        Checks.dueConvert(15, Checks.code(Checks.of(6, 0, 1), Samples.functions(7), Samples.functions(7)));
    }

    private static void theProgramsRowIsNotCounted() {
        Checks.sentence(3, "(that of the program is not counted; then likewise)");
        // What lies in the program's row: both terms of LET, of APPLY, of OP, the condition of IF.
        int[] deep = Samples.functions(8);
        Checks.dueConvert(8, Checks.code(Checks.of(4, 0), deep, Samples.ZERO));
        Checks.dueConvert(8, Checks.code(Checks.of(4, 0, 0, 1), deep));
        Checks.dueConvert(9, Checks.code(Checks.of(3), deep, Samples.ZERO));
        Checks.dueConvert(9, Checks.code(Checks.of(3, 0, 1), deep));
        Checks.dueConvert(9, Checks.code(Checks.of(5, 0), deep, Samples.ZERO));
        Checks.dueConvert(9, Checks.code(Checks.of(5, 0, 0, 1), deep));
        Checks.dueConvert(9, Checks.code(Checks.of(6), deep, Samples.ZERO, Samples.ZERO));
        Checks.dueConvert(Checks.TOO_DEEP, Checks.code(Checks.of(6), Samples.functions(9), Samples.ZERO, Samples.ZERO));
    }

    private static void noTermComesBeforeTooDeep() {
        Checks.sentence(3, "when it is no term (then it is empty, too; the program of before stays); otherwise UnsupportedOperationException");
        int[] deep = Samples.functions(9);
        int[] free = {1, 1};
        Checks.dueConvert(Checks.NO_TERM, Checks.code(Checks.times(9, 2, 0), free));
        Checks.dueConvert(Checks.NO_TERM, Checks.code(Checks.of(3), deep, free));
        Checks.dueConvert(Checks.NO_TERM, Checks.code(Checks.of(3), free, deep));
        Checks.dueConvert(Checks.NO_TERM, Checks.code(deep, Checks.of(0)));
        Checks.dueConvert(Checks.NO_TERM, Checks.times(9, 2, 0));
        Checks.dueConvert(Checks.NO_TERM, Checks.code(Checks.of(3), deep, Checks.of(7)));
    }

    private static void tooDeepLeavesTheProgram() {
        Checks.sentence(3, "then likewise");
        for (int[] code : new int[][] {Samples.functions(9), Samples.secondRows(9), Samples.functions(29)}) {
            dueUnchanged(Checks.TOO_DEEP, code);
            dueNoProgram(Checks.TOO_DEEP, code);
        }
    }

    private static void namesAreNumberedAnew() {
        Checks.sentence(3, "Names are numbered 0, 1, .. as they are made, anew for each program");
        TermSimplifier t = Checks.converted(Samples.CALL);
        Checks.dueWritten("8 2 2 0 8 1 5 0 1 0 0 1 9 1 1 8 3 3 1 2 0 41 9 1 3", t);
        Checks.type(t, 1, 0);
        Checks.due("convert", Checks.NO_TERM, t::convert);
        Checks.type(t, Samples.functions(9));
        Checks.due("convert", Checks.TOO_DEEP, t::convert);
        Checks.type(t, 2, 0, 1, 0);
        Checks.due("convert", 1, t::convert);
        Checks.dueWritten("8 1 2 0 9 1 0 9 1 1", t);
    }

    private static void convertedByKind() {
        Checks.sentence(3, "NUMBER: itself.");
        Checks.dueWritten("9 0 -1", Checks.converted(0, -1));
        Checks.sentence(3, "VARIABLE: the atom that it stands for.");
        Checks.dueWritten("8 0 5 2 0 3 0 3 9 1 0", Checks.converted(4, 7, 0, 3, 5, 2, 1, 7, 1, 7));
        Checks.sentence(3, "FUN x t: a name p; a new row, into which t is converted, with x standing for p");
        Checks.dueWritten("8 4 2 0 8 3 2 1 8 2 5 1 1 0 1 1 9 1 2 9 1 3 9 1 4", Checks.converted(2, 8, 2, 9, 5, 1, 1, 8, 1, 9));
        Checks.sentence(3, "APPLY: f, then a, then a name v, bound to APPLY of their atoms: v.");
        Checks.dueWritten("8 0 5 0 0 1 0 2 8 1 5 1 0 3 0 4 8 2 3 1 0 1 1 9 1 2",
            Checks.converted(3, 5, 0, 0, 1, 0, 2, 5, 1, 0, 3, 0, 4));
        Checks.sentence(3, "LET x t u: t; then u with x standing for t's atom: its atom.");
        Checks.dueWritten("8 0 5 0 0 1 0 2 8 1 5 2 1 0 1 0 9 1 1", Checks.converted(4, 9, 5, 0, 0, 1, 0, 2, 5, 2, 1, 9, 1, 9));
        Checks.dueWritten("8 0 5 0 0 1 0 2 9 0 6", Checks.converted(4, 9, 5, 0, 0, 1, 0, 2, 0, 6));
        Checks.sentence(3, "OP: likewise APPLY.");
        Checks.dueWritten("8 0 5 0 0 1 0 2 8 1 5 1 0 3 0 4 8 2 5 4 1 0 1 1 9 1 2",
            Checks.converted(5, 4, 5, 0, 0, 1, 0, 2, 5, 1, 0, 3, 0, 4));
        Checks.sentence(3, "IF: c; a new row for t, a new row for u, their results; a name v, bound to IF: v.");
        Checks.dueWritten("8 0 5 4 0 1 0 2 8 3 6 1 0 8 1 5 1 0 3 0 4 9 1 1 8 2 6 0 5 9 0 6 9 0 7 9 1 2 9 1 3",
            Checks.converted(6, 5, 4, 0, 1, 0, 2, 5, 1, 0, 3, 0, 4, 6, 0, 5, 0, 6, 0, 7));
        Checks.sentence(3, "The program of a term is the row into which it is converted, with its atom as result.");
        Checks.dueWritten("8 3 2 0 8 2 2 1 9 1 0 9 1 2 8 4 3 1 3 0 5 8 5 3 1 4 0 6 9 1 5",
            Checks.converted(3, 3, 2, 0, 2, 1, 1, 0, 0, 5, 0, 6));
        Checks.dueWritten("9 0 5", Checks.converted(4, 0, 0, 5, 1, 0));
    }
}
