/** Promise 4, and what the document says of passes and their steps. */
public final class Promise4PassTest {
    private static final int MIN = Integer.MIN_VALUE;
    private static final int MAX = Integer.MAX_VALUE;

    public static void main(String[] args) {
        onePass();
        noProgram();
        inOrder();
        behindItIfNothingStandsThere();
        withWhatStandsInItsPlace();
        fold();
        foldNotByZero();
        choose();
        standsForAnAtomWhereverItOccurs();
        inline();
        inlineOfWhatIsNoFunction();
        inlineOfWhatOccursTwice();
        theParameterStandsForTheArgument();
        theFunctionGoesAwayWhereItIs();
        theFunctionGoesAwayInARowAround();
        drop();
        dropNotOfOthers();
        rowsOfWhatStays();
        firstRowThenSecond();
        Checks.end();
    }

    private static void onePass() {
        Checks.sentence(4, "Makes one pass: how many of its steps (FOLD, CHOOSE, INLINE, DROP) it did.");
        Checks.duePass(0, "9 0 5", 0, 5);
        Checks.duePass(1, "9 0 3", Samples.SUM);
        Checks.duePass(2, "9 0 42", Samples.CALL);
        // IF 1 < 2: f 41, else 0, with g not used: a FOLD, a CHOOSE, an INLINE and a FOLD, and a DROP.
        Checks.duePass(5, "9 0 42", 4, 0, 2, 1, 5, 0, 1, 1, 0, 1, 4, 2, 2, 3, 1, 3, 6, 5, 4, 0, 1, 0, 2, 3, 1, 0, 0, 41, 0, 0);
        // The second pass is made by the next call alone.
        TermSimplifier t = Checks.converted(4, 0, 2, 9, 1, 9, 4, 1, 2, 9, 1, 0, 0, 7);
        Checks.due("first pass", 1, t::pass);
        Checks.dueWritten("8 1 2 0 9 1 0 9 0 7", t);
        Checks.due("second pass", 1, t::pass);
        Checks.dueWritten("9 0 7", t);
        Checks.due("third pass", 0, t::pass);
    }

    private static void noProgram() {
        Checks.sentence(4, "Throws IllegalStateException when there is no program.");
        TermSimplifier t = new TermSimplifier();
        Checks.due("pass of a new object", Checks.NO_PROGRAM, t::pass);
        Checks.type(t, Samples.functions(9));
        Checks.due("pass before convert", Checks.NO_PROGRAM, t::pass);
        Checks.due("convert", Checks.TOO_DEEP, t::convert);
        Checks.due("pass", Checks.NO_PROGRAM, t::pass);
        Checks.due("convert", Checks.NO_TERM, t::convert);
        Checks.due("pass", Checks.NO_PROGRAM, t::pass);
        Checks.dueRan("0 0 0 0", t);
        Checks.type(t, Samples.SUM);
        t.convert();
        Checks.due("pass", 1, t::pass);
    }

    private static void inOrder() {
        Checks.sentence(4, "A PASS goes over a row's bindings in order.");
        // Each sum uses the one before it.
        Checks.duePass(3, "9 0 10", 5, 0, 5, 0, 5, 0, 0, 1, 0, 2, 0, 3, 0, 4);
        // f is looked at before g, which alone uses it, is thrown away.
        Checks.duePass(1, "8 1 2 0 9 1 0 9 0 7", 4, 0, 2, 9, 1, 9, 4, 1, 2, 9, 1, 0, 0, 7);
    }

    private static void behindItIfNothingStandsThere() {
        Checks.sentence(4, "(behind it, if nothing does)");
        // Nothing stands in the place, and what stands behind is not passed over: FOLD, CHOOSE, INLINE, DROP.
        Checks.duePass(3, "9 0 10", 5, 0, 5, 0, 0, 1, 0, 2, 5, 0, 0, 3, 0, 4);
        Checks.duePass(2, "9 0 7", 5, 0, 6, 0, 1, 0, 4, 0, 5, 0, 3);
        Checks.duePass(2, "9 0 7", 5, 0, 3, 2, 0, 1, 0, 0, 4, 0, 3);
        Checks.duePass(2, "9 0 7", 4, 0, 2, 1, 1, 1, 4, 1, 2, 1, 1, 1, 0, 7);
        // Likewise in a row that is not the program's, and where it is the last of the row.
        Checks.duePass(3, "8 4 2 0 9 0 10 9 1 4", 2, 0, 5, 0, 5, 0, 0, 1, 0, 2, 5, 0, 0, 3, 0, 4);
        Checks.duePass(1, "8 2 2 0 9 0 3 9 1 2", 2, 0, 5, 0, 0, 1, 0, 2);
    }

    private static void withWhatStandsInItsPlace() {
        Checks.sentence(4, "goes on with what stands in its place then");
        // The bindings of a chosen row, all of them, then what stands behind.
        Checks.duePass(5, "9 0 21", 5, 0, 6, 0, 1, 5, 2, 5, 0, 0, 1, 0, 2, 0, 3, 0, 0, 5, 0, 0, 5, 0, 7);
        Checks.duePass(2, "9 0 2", 6, 0, 1, 6, 0, 0, 0, 1, 0, 2, 0, 3);
        // The bindings of a function: one that was waiting for its argument.
        Checks.duePass(2, "9 0 42", Samples.CALL);
        Checks.duePass(3, "9 0 49", 3, 2, 0, 4, 1, 5, 0, 1, 0, 0, 1, 5, 2, 1, 1, 1, 1, 0, 6);
        // A function that came as an argument is put in place in the same pass.
        Checks.duePass(2, "9 0 8", 3, 2, 0, 3, 1, 0, 0, 8, 2, 1, 1, 1);
    }

    private static void fold() {
        Checks.sentence(4, "FOLD: OP of two numbers, but / by 0: v stands for the number.");
        Checks.duePass(1, "9 0 " + MIN, 5, 0, 0, MAX, 0, 1);
        Checks.duePass(1, "9 0 -2", 5, 0, 0, MAX, 0, MAX);
        Checks.duePass(1, "9 0 0", 5, 0, 0, MIN, 0, MIN);
        Checks.duePass(1, "9 0 " + MAX, 5, 1, 0, MIN, 0, 1);
        Checks.duePass(1, "9 0 " + MIN, 5, 1, 0, 0, 0, MIN);
        Checks.duePass(1, "9 0 0", 5, 2, 0, 65536, 0, 65536);
        Checks.duePass(1, "9 0 1", 5, 2, 0, MAX, 0, MAX);
        Checks.duePass(1, "9 0 " + MIN, 5, 2, 0, MIN, 0, -1);
        Checks.duePass(1, "9 0 -3", 5, 3, 0, -7, 0, 2);
        Checks.duePass(1, "9 0 -3", 5, 3, 0, 7, 0, -2);
        Checks.duePass(1, "9 0 7", 5, 3, 0, 7, 0, 1);
        Checks.duePass(1, "9 0 -7", 5, 3, 0, 7, 0, -1);
        Checks.duePass(1, "9 0 0", 5, 3, 0, -1, 0, 2);
        Checks.duePass(1, "9 0 " + MIN, 5, 3, 0, MIN, 0, -1);
        Checks.duePass(1, "9 0 1", 5, 4, 0, MIN, 0, MAX);
        Checks.duePass(1, "9 0 0", 5, 4, 0, MAX, 0, MIN);
        Checks.duePass(1, "9 0 0", 5, 4, 0, 2, 0, 2);
        Checks.duePass(1, "9 0 1", 5, 4, 0, -1, 0, 0);
        // A name in it, on either side: it must wait, though the other is 0.
        Checks.duePass(0, "8 0 5 3 0 1 0 0 8 1 5 2 1 0 0 0 9 1 1", 5, 2, 5, 3, 0, 1, 0, 0, 0, 0);
        Checks.duePass(0, "8 0 5 3 0 1 0 0 8 1 5 2 0 0 1 0 9 1 1", 5, 2, 0, 0, 5, 3, 0, 1, 0, 0);
        Checks.duePass(0, "8 2 2 0 8 1 5 1 1 0 1 0 9 1 1 9 1 2", 2, 0, 5, 1, 1, 0, 1, 0);
    }

    private static void foldNotByZero() {
        Checks.sentence(4, "but / by 0");
        Checks.duePass(0, "8 0 5 3 0 7 0 0 9 1 0", 5, 3, 0, 7, 0, 0);
        Checks.duePass(0, "8 0 5 3 0 0 0 0 9 1 0", 5, 3, 0, 0, 0, 0);
        Checks.duePass(0, "8 0 5 3 0 " + MIN + " 0 0 9 1 0", 5, 3, 0, MIN, 0, 0);
        Checks.duePass(1, "9 0 0", 5, 3, 0, 0, 0, 7);
        // Other operations of 0 are worked out.
        Checks.duePass(1, "9 0 7", 5, 0, 0, 7, 0, 0);
        Checks.duePass(1, "9 0 7", 5, 1, 0, 7, 0, 0);
        Checks.duePass(1, "9 0 0", 5, 2, 0, 7, 0, 0);
        Checks.duePass(1, "9 0 0", 5, 4, 0, 7, 0, 0);
        // A divisor that becomes 0 in the same pass.
        Checks.duePass(1, "8 1 5 3 0 7 0 0 9 1 1", 5, 3, 0, 7, 5, 1, 0, 4, 0, 4);
    }

    private static void choose() {
        Checks.sentence(4, "CHOOSE: IF of a number: the bindings of r (of s, if it is 0) come in its place, and v stands for that row's result.");
        for (int c : new int[] {1, -1, 2, MIN, MAX}) {
            Checks.duePass(1, "9 0 4", 6, 0, c, 0, 4, 0, 5);
        }
        Checks.duePass(1, "9 0 5", 6, 0, 0, 0, 4, 0, 5);
        // An IF of a name stays.
        Checks.duePass(0, "8 0 5 3 0 1 0 0 8 1 6 1 0 9 0 4 9 0 5 9 1 1", 6, 5, 3, 0, 1, 0, 0, 0, 4, 0, 5);
        // What stays of a row: its bindings in order, between those before and those behind.
        Checks.duePass(1, "8 0 3 0 1 0 1 8 1 3 0 2 0 2 8 2 3 0 3 1 1 8 4 3 0 4 1 2 9 1 4",
            4, 0, 3, 0, 1, 0, 1, 3, 0, 4, 6, 0, 1, 3, 0, 3, 3, 0, 2, 0, 2, 0, 9);
        // No step is done in the row that goes away; what occurred there alone does not occur any more.
        Checks.duePass(1, "9 0 4", 6, 0, 1, 0, 4, 5, 0, 0, 1, 0, 2);
        Checks.duePass(2, "9 0 2", 6, 0, 0, 5, 0, 0, 1, 0, 2, 4, 0, 2, 1, 1, 1, 0, 2);
        // The result is a name of a row around, and v occurs twice.
        Checks.duePass(1, "8 0 5 3 0 1 0 0 8 2 5 2 1 0 1 0 9 1 2", 4, 0, 5, 3, 0, 1, 0, 0, 4, 1, 6, 0, 1, 1, 0, 0, 5, 5, 2, 1, 1, 1, 1);
    }

    private static void standsForAnAtomWhereverItOccurs() {
        Checks.sentence(4, "(\"v stands for\" an atom: the binding goes away, and the atom takes v's place wherever it occurs.)");
        // After FOLD: in both atoms of an APPLY, in an IF, in rows inside of rows and as their result.
        Checks.duePass(1, "8 1 3 0 3 0 3 9 1 1", 4, 0, 5, 0, 0, 1, 0, 2, 3, 1, 0, 1, 0);
        Checks.duePass(2, "9 0 4", 4, 0, 5, 0, 0, 1, 0, 2, 6, 1, 0, 0, 4, 0, 5);
        Checks.duePass(1, "8 4 2 1 8 3 6 1 1 8 2 5 2 1 1 0 3 9 1 2 9 0 3 9 1 3 9 1 4",
            4, 0, 5, 0, 0, 1, 0, 2, 2, 1, 6, 1, 1, 5, 2, 1, 1, 1, 0, 1, 0);
        // After CHOOSE, for a name, as the result of a row; after INLINE, in both atoms of an OP in a row.
        Checks.duePass(1, "8 0 5 3 0 1 0 0 8 3 2 2 9 1 0 9 1 3", 4, 0, 6, 0, 1, 5, 3, 0, 1, 0, 0, 0, 5, 2, 1, 1, 0);
        Checks.duePass(1, "8 2 5 3 0 1 0 0 8 6 2 4 8 5 5 0 1 2 1 2 9 1 5 9 1 6",
            4, 0, 3, 2, 1, 1, 1, 5, 3, 0, 1, 0, 0, 2, 2, 5, 0, 1, 0, 1, 0);
    }

    private static void inline() {
        Checks.sentence(4, "INLINE: APPLY of a name f to b, where f is bound to a FUN p r and occurs just once");
        Checks.duePass(1, "9 0 7", 3, 2, 0, 1, 0, 0, 7);
        Checks.duePass(1, "9 0 9", 3, 2, 0, 0, 9, 0, 7);
        Checks.duePass(1, "8 3 2 2 9 1 2 9 1 3", 3, 2, 0, 1, 0, 2, 0, 1, 0);
        // The function of a function: the second APPLY is of what the first one stands for.
        Checks.duePass(3, "9 0 30", 3, 3, 2, 0, 2, 1, 5, 2, 1, 0, 1, 1, 0, 5, 0, 6);
        // A function that is chosen.
        Checks.duePass(2, "9 0 7", 3, 6, 0, 1, 2, 0, 1, 0, 0, 5, 0, 7);
    }

    private static void inlineOfWhatIsNoFunction() {
        Checks.sentence(4, "where f is bound to a FUN p r");
        // A number, a parameter, an OP, an IF, an APPLY.
        Checks.duePass(0, "8 0 3 0 1 0 2 9 1 0", 3, 0, 1, 0, 2);
        Checks.duePass(0, "8 2 2 0 8 1 3 1 0 0 2 9 1 1 9 1 2", 2, 0, 3, 1, 0, 0, 2);
        Checks.duePass(0, "8 0 5 3 0 1 0 0 8 1 3 1 0 0 2 9 1 1", 3, 5, 3, 0, 1, 0, 0, 0, 2);
        Checks.duePass(0, "8 0 5 3 0 1 0 0 8 5 6 1 0 8 2 2 1 9 1 1 9 1 2 8 4 2 3 9 1 3 9 1 4 8 6 3 1 5 0 5 9 1 6",
            3, 6, 5, 3, 0, 1, 0, 0, 2, 0, 1, 0, 2, 0, 1, 0, 0, 5);
        Checks.duePass(0, "8 0 3 0 1 0 2 8 1 3 1 0 0 3 9 1 1", 3, 3, 0, 1, 0, 2, 0, 3);
    }

    private static void inlineOfWhatOccursTwice() {
        Checks.sentence(4, "A name OCCURS where it stands as an atom, in the whole program.");
        String f = "8 1 2 0 9 1 0 8 2 3 1 1 0 5 ";
        // Once more in: another APPLY, the same one, the result, an OP, an IF, a function's row, a row of an IF.
        Checks.duePass(0, f + "8 3 3 1 1 0 6 9 1 3", 4, 0, 2, 1, 1, 1, 4, 2, 3, 1, 0, 0, 5, 3, 1, 0, 0, 6);
        Checks.duePass(0, "8 1 2 0 9 1 0 8 2 3 1 1 1 1 9 1 2", 4, 0, 2, 1, 1, 1, 3, 1, 0, 1, 0);
        Checks.duePass(0, f + "9 1 1", 4, 0, 2, 1, 1, 1, 4, 2, 3, 1, 0, 0, 5, 1, 0);
        Checks.duePass(0, f + "8 3 5 0 1 2 1 1 9 1 3", 4, 0, 2, 1, 1, 1, 5, 0, 3, 1, 0, 0, 5, 1, 0);
        Checks.duePass(0, f + "8 3 6 1 1 9 0 1 9 0 2 9 1 3", 4, 0, 2, 1, 1, 1, 4, 2, 3, 1, 0, 0, 5, 6, 1, 0, 0, 1, 0, 2);
        Checks.duePass(0, f + "8 4 2 3 9 1 1 9 1 4", 4, 0, 2, 1, 1, 1, 4, 2, 3, 1, 0, 0, 5, 2, 3, 1, 0);
        Checks.duePass(0, f + "8 3 6 1 2 9 0 1 9 1 1 9 1 3", 4, 0, 2, 1, 1, 1, 4, 2, 3, 1, 0, 0, 5, 6, 1, 2, 0, 1, 1, 0);
        // Once, but not as what is applied: it stays where it is.
        Checks.duePass(0, "8 1 2 0 9 1 0 8 2 3 0 5 1 1 9 1 2", 4, 0, 2, 1, 1, 1, 3, 0, 5, 1, 0);
        // Twice at first; once as soon as the other one goes away with a row that is not chosen.
        Checks.duePass(2, "9 0 6", 4, 0, 2, 1, 1, 1, 4, 2, 6, 0, 0, 3, 1, 0, 0, 5, 0, 4, 3, 1, 0, 0, 6);
    }

    private static void theParameterStandsForTheArgument() {
        Checks.sentence(4, "the bindings of r come in its place, p stands for b, then v for r's result");
        // p does not occur: the argument's function does not either then, but its turn is over.
        TermSimplifier t = Checks.converted(3, 2, 0, 0, 7, 2, 1, 1, 1);
        Checks.due("pass", 1, t::pass);
        Checks.dueWritten("8 3 2 2 9 1 2 9 0 7", t);
        Checks.due("pass", 1, t::pass);
        Checks.dueWritten("9 0 7", t);
        // p occurs twice, in a row inside: 4 + 4.
        Checks.duePass(2, "8 3 2 1 9 0 8 9 1 3", 3, 2, 0, 2, 1, 5, 0, 1, 0, 1, 0, 0, 4);
        // p stands for a name, which is what is left as the result of it all.
        Checks.duePass(1, "8 2 5 3 0 1 0 0 9 1 2", 3, 2, 0, 1, 0, 5, 3, 0, 1, 0, 0);
        // p is applied, and is a function that is used once.
        Checks.duePass(3, "9 0 6", 3, 2, 0, 3, 1, 0, 0, 5, 2, 1, 5, 0, 1, 1, 0, 1);
        // p is the condition of an IF.
        Checks.duePass(2, "9 0 2", 3, 2, 0, 6, 1, 0, 0, 1, 0, 2, 0, 0);
    }

    private static void theFunctionGoesAwayWhereItIs() {
        Checks.sentence(4, "the binding of f goes away (where it is;");
        // Just before the APPLY; with bindings between them; with bindings before it.
        Checks.duePass(2, "9 0 42", Samples.CALL);
        Checks.duePass(2, "8 3 5 3 0 1 0 0 9 0 6", 4, 0, 2, 1, 5, 0, 1, 1, 0, 1, 4, 2, 5, 3, 0, 1, 0, 0, 3, 1, 0, 0, 5);
        Checks.duePass(2, "8 0 5 3 0 1 0 0 9 0 6", 4, 2, 5, 3, 0, 1, 0, 0, 4, 0, 2, 1, 5, 0, 1, 1, 0, 1, 3, 1, 0, 0, 5);
        // What stands behind the APPLY is not passed over: the sum.
        Checks.duePass(3, "8 3 5 3 0 1 0 0 9 0 9",
            4, 0, 2, 1, 5, 0, 1, 1, 0, 1, 4, 2, 5, 3, 0, 1, 0, 0, 5, 0, 3, 1, 0, 0, 5, 0, 3);
    }

    private static void theFunctionGoesAwayInARowAround() {
        Checks.sentence(4, "if that is in a row around, the pass goes on there behind the binding it is at)");
        // Used in the last binding there is.
        Checks.duePass(1, "8 5 2 3 8 1 5 0 1 3 0 1 9 1 1 9 1 5", 4, 0, 2, 1, 5, 0, 1, 1, 0, 1, 2, 2, 3, 1, 0, 1, 2);
        // f is used once, inside g: it goes there, and the pass goes on behind g, at the sum.
        Checks.duePass(2, "8 5 2 3 8 1 5 0 1 3 0 1 9 1 1 8 7 3 1 5 0 3 8 8 3 1 5 0 5 8 9 5 0 1 7 1 8 9 1 9",
            4, 0, 2, 1, 5, 0, 1, 1, 0, 1, 4, 2, 2, 3, 3, 1, 0, 1, 3,
            5, 0, 3, 1, 2, 5, 0, 0, 1, 0, 2, 3, 1, 2, 0, 5);
        // Likewise two rows further in, in the second row of an IF, with a sum behind each.
        Checks.duePass(3, "8 8 2 3 8 7 6 1 3 9 0 1 8 1 5 0 1 3 0 1 8 6 5 0 1 1 0 5 9 1 6 9 1 7 8 9 3 1 8 1 8 8 11 5 0 1 9 0 4 9 1 11",
            4, 0, 2, 1, 5, 0, 1, 1, 0, 1,
            4, 2, 2, 3, 6, 1, 3, 0, 1, 5, 0, 3, 1, 0, 1, 3, 5, 0, 0, 2, 0, 3,
            5, 0, 3, 1, 2, 1, 2, 5, 0, 0, 2, 0, 2);
        // Two of them go into one row, and two bindings stand behind it.
        Checks.duePass(3, "8 9 2 6 8 4 5 2 1 6 0 2 8 1 5 0 1 4 0 1 9 1 1 8 10 3 1 9 1 9 8 12 5 0 1 10 0 3 9 1 12",
            4, 0, 2, 1, 5, 0, 1, 1, 0, 1, 4, 2, 2, 1, 5, 2, 1, 1, 0, 2, 4, 3, 2, 4, 3, 1, 0, 3, 1, 2, 1, 4,
            5, 0, 3, 1, 3, 1, 3, 5, 0, 0, 1, 0, 2);
        // Used in the first row of an IF; the second row is gone over all the same, and what stands behind.
        Checks.duePass(4, "8 3 5 3 0 1 0 0 8 6 6 1 3 9 0 6 9 0 3 8 8 5 0 1 6 0 5 9 1 8",
            4, 0, 2, 1, 5, 0, 1, 1, 0, 1, 5, 0, 6, 5, 3, 0, 1, 0, 0, 3, 1, 0, 0, 5, 5, 0, 0, 1, 0, 2, 5, 0, 0, 2, 0, 3);
        // The row around is itself inside a function.
        Checks.duePass(2, "8 8 2 0 8 5 6 1 0 8 2 5 0 1 0 0 1 9 1 2 9 0 9 8 7 5 0 1 5 0 7 9 1 7 9 1 8",
            2, 9, 4, 0, 2, 1, 5, 0, 1, 1, 0, 1, 5, 0, 6, 1, 9, 3, 1, 0, 1, 9, 0, 9, 5, 0, 0, 3, 0, 4);
    }

    private static void drop() {
        Checks.sentence(4, "DROP: FUN, and v does not occur: it goes away.");
        Checks.duePass(1, "9 0 7", Samples.UNUSED);
        // No step is done in its row.
        Checks.duePass(1, "9 0 7", 4, 0, 2, 1, 5, 0, 0, 1, 0, 2, 0, 7);
        // In an inner row.
        Checks.duePass(1, "8 3 2 0 9 1 0 9 1 3", 2, 0, 4, 1, 2, 2, 1, 2, 1, 0);
        // It occurs as the result, as an argument, in an inner row: it stays.
        Checks.duePass(0, "8 1 2 0 9 1 0 9 1 1", 2, 0, 1, 0);
        Checks.duePass(0, "8 1 2 0 9 1 0 8 2 3 0 1 1 1 9 1 2", 3, 0, 1, 2, 0, 1, 0);
        Checks.duePass(0, "8 1 2 0 9 1 0 8 3 2 2 9 1 1 9 1 3", 4, 0, 2, 9, 1, 9, 2, 8, 1, 0);
        // What occurred in it does not occur any more, so that f, used in g and once more, is put in place.
        Checks.duePass(2, "9 0 7", 4, 0, 2, 1, 1, 1, 4, 2, 2, 3, 3, 1, 0, 1, 3, 3, 1, 0, 0, 7);
    }

    private static void dropNotOfOthers() {
        Checks.sentence(4, "DROP: FUN");
        // An APPLY, an OP, an IF whose name does not occur.
        Checks.duePass(0, "8 0 3 0 1 0 2 9 0 5", 4, 0, 3, 0, 1, 0, 2, 0, 5);
        Checks.duePass(0, "8 0 5 3 0 1 0 0 9 0 5", 4, 0, 5, 3, 0, 1, 0, 0, 0, 5);
        Checks.duePass(0, "8 2 2 0 8 1 6 1 0 9 0 1 9 0 2 9 0 5 9 1 2", 2, 0, 4, 1, 6, 1, 0, 0, 1, 0, 2, 0, 5);
    }

    private static void rowsOfWhatStays() {
        Checks.sentence(4, "If it can do none: the pass goes over its rows (r, then s), and goes on behind it.");
        Checks.duePass(2, "8 0 5 3 0 1 0 0 8 3 6 1 0 9 0 2 9 0 4 9 1 3", 6, 5, 3, 0, 1, 0, 0, 5, 0, 0, 1, 0, 1, 5, 0, 0, 2, 0, 2);
        Checks.duePass(2, "8 2 2 0 9 0 3 8 4 5 0 1 2 0 7 9 1 4", 5, 0, 2, 0, 5, 0, 0, 1, 0, 2, 5, 0, 0, 3, 0, 4);
        // Eight rows deep.
        int[] deep = Checks.code(Checks.times(8, 2, 0), Samples.SUM);
        TermSimplifier t = Checks.converted(deep);
        Checks.due("pass", 1, t::pass);
        Checks.dueCounts("1 0 0 0 8 17", t);
    }

    private static void firstRowThenSecond() {
        Checks.sentence(4, "(r, then s)");
        // f occurs in both rows; it goes out of the first, and is put in place in the second.
        Checks.duePass(2, "8 7 2 2 8 6 6 1 2 9 0 3 9 0 6 9 1 6 9 1 7",
            4, 0, 2, 1, 1, 1, 2, 2, 6, 1, 2, 6, 0, 0, 3, 1, 0, 0, 5, 0, 3, 3, 1, 0, 0, 6);
        // The other way round the pass is too late for it.
        Checks.duePass(1, "8 1 2 0 9 1 0 8 7 2 2 8 6 6 1 2 8 3 3 1 1 0 6 9 1 3 9 0 3 9 1 6 9 1 7",
            4, 0, 2, 1, 1, 1, 2, 2, 6, 1, 2, 3, 1, 0, 0, 6, 6, 0, 0, 3, 1, 0, 0, 5, 0, 3);
    }
}
