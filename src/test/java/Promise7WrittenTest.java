/** Promise 7. */
public final class Promise7WrittenTest {
    public static void main(String[] args) {
        rowsAndBindings();
        atoms();
        numberK();
        none();
        noneWithoutAProgram();
        theProgramAsItIsNow();
        Checks.end();
    }

    private static void rowsAndBindings() {
        Checks.sentence(7, "a row: each binding as 8 and its name");
        Checks.dueWritten("8 0 5 0 0 1 0 2 8 1 5 1 1 0 0 3 9 1 1", Checks.converted(5, 1, 5, 0, 0, 1, 0, 2, 0, 3));
        Checks.sentence(7, "FUN: 2 p and the row");
        Checks.dueWritten("8 3 2 0 8 2 2 1 9 1 0 9 1 2 9 1 3", Checks.converted(2, 8, 2, 9, 1, 8));
        Checks.sentence(7, "APPLY: 3 and the atoms");
        Checks.dueWritten("8 1 2 0 9 1 0 8 2 3 1 1 0 -4 9 1 2", Checks.converted(3, 2, 0, 1, 0, 0, -4));
        Checks.sentence(7, "OP: 5 o and the atoms");
        Checks.dueWritten("8 0 5 4 0 -3 0 4 9 1 0", Checks.converted(5, 4, 0, -3, 0, 4));
        Checks.sentence(7, "IF: 6, the atom and the rows");
        Checks.dueWritten("8 0 5 3 0 1 0 0 8 2 6 1 0 8 1 5 3 0 2 0 0 9 1 1 9 0 5 9 1 2",
            Checks.converted(6, 5, 3, 0, 1, 0, 0, 5, 3, 0, 2, 0, 0, 0, 5));
        Checks.sentence(7, "behind the bindings 9 and the result");
        Checks.dueWritten("9 0 5", Checks.converted(0, 5));
        Checks.dueWritten("8 0 5 3 0 1 0 0 9 0 5", Checks.converted(4, 0, 5, 3, 0, 1, 0, 0, 0, 5));
    }

    private static void atoms() {
        Checks.sentence(7, "An atom: 0 and the number, or 1 and the name.");
        Checks.dueWritten("9 0 " + Integer.MIN_VALUE, Checks.converted(0, Integer.MIN_VALUE));
        Checks.dueWritten("9 0 " + Integer.MAX_VALUE, Checks.converted(0, Integer.MAX_VALUE));
        Checks.dueWritten("8 0 5 0 0 0 0 1 9 1 0", Checks.converted(5, 0, 0, 0, 0, 1));
    }

    private static void numberK() {
        Checks.sentence(7, "Number k of that.");
        TermSimplifier t = Checks.converted(5, 4, 0, -3, 0, 4);
        int[] numbers = {8, 0, 5, 4, 0, -3, 0, 4, 9, 1, 0};
        for (int k = 0; k < numbers.length; k++) {
            int at = k;
            Checks.due("written(" + at + ")", numbers[at], () -> t.written(at));
        }
        for (int k = numbers.length - 1; k >= 0; k--) {
            int at = k;
            Checks.due("written(" + at + "), from the last to the first", numbers[at], () -> t.written(at));
        }
    }

    private static void none() {
        Checks.sentence(7, "Throws NoSuchElementException when there is none.");
        TermSimplifier t = Checks.converted(5, 4, 0, -3, 0, 4);
        dueNone(t, 11, 12, -1, Integer.MIN_VALUE, Integer.MAX_VALUE);
        Checks.due("written(10)", 0, () -> t.written(10));
        TermSimplifier number = Checks.converted(0, 5);
        dueNone(number, 3, -1);
        Checks.due("written(2)", 5, () -> number.written(2));
        // 27 bindings of 7 numbers each, with the results of their rows, and the program's result.
        TermSimplifier full = Checks.converted(Checks.code(Checks.of(3, 3, 3, 3), Samples.functions(8),
            Samples.functions(8), Samples.functions(7), Samples.ZERO, Samples.ZERO));
        Checks.due("written(191)", 49, () -> full.written(191));
        dueNone(full, 192, -1);
    }

    private static void dueNone(TermSimplifier t, int... places) {
        for (int k : places) {
            Checks.due("written(" + k + ")", Checks.NOTHING_SUCH, () -> t.written(k));
        }
    }

    private static void noneWithoutAProgram() {
        Checks.sentence(7, "when there is none");
        TermSimplifier t = new TermSimplifier();
        dueNone(t, 0, 1, -1, Integer.MIN_VALUE, Integer.MAX_VALUE);
        Checks.type(t, Samples.functions(9));
        dueNone(t, 0, -1);
        Checks.due("convert", Checks.TOO_DEEP, t::convert);
        dueNone(t, 0, -1);
        Checks.due("convert", Checks.NO_TERM, t::convert);
        dueNone(t, 0, -1);
    }

    private static void theProgramAsItIsNow() {
        Checks.sentence(7, "The program is written as numbers");
        TermSimplifier t = Checks.converted(5, 4, 0, -3, 0, 4);
        Checks.due("written(10)", 0, () -> t.written(10));
        t.pass();
        Checks.dueWritten("9 0 1", t);
        dueNone(t, 3, 10);
        Checks.type(t, 2, 0, 3, 1, 0, 1, 0);
        Checks.dueWritten("9 0 1", t);
        t.convert();
        Checks.dueWritten("8 2 2 0 8 1 3 1 0 1 0 9 1 1 9 1 2", t);
        t.run();
        Checks.dueWritten("8 2 2 0 8 1 3 1 0 1 0 9 1 1 9 1 2", t);
        Checks.type(t, 0, 6);
        t.convert();
        Checks.dueWritten("9 0 6", t);
    }
}
