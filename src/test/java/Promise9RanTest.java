/** Promise 9. */
public final class Promise9RanTest {
    public static void main(String[] args) {
        ofTheLatestRun();
        whateverCameSince();
        itsValue();
        whetherThatIsAFunction();
        howManyBindings();
        howManyRows();
        before();
        anotherWhat();
        Checks.end();
    }

    private static TermSimplifier ranOnce(int... code) {
        TermSimplifier t = Checks.converted(code);
        t.run();
        return t;
    }

    private static void ofTheLatestRun() {
        Checks.sentence(9, "Of the latest run");
        TermSimplifier t = ranOnce(Samples.CALL);
        Checks.dueRan("42 0 3 1", t);
        int[][] codes = {{5, 3, 0, 1, 0, 0}, {2, 0, 1, 0}, {3, 0, 1, 0, 1}, {6, 0, 1, 0, 9, 0, 8}, {0, 0}};
        String[] left = {"0 0 1 0", "0 1 1 0", "0 0 1 0", "9 0 1 1", "0 0 0 0"};
        for (int k = 0; k < codes.length; k++) {
            Checks.type(t, codes[k]);
            t.convert();
            t.run();
            Checks.dueRan(left[k], t);
        }
    }

    private static void whateverCameSince() {
        Checks.sentence(9, "whatever came since");
        TermSimplifier t = ranOnce(Samples.CALL);
        t.pass();
        Checks.dueRan("42 0 3 1", t);
        t.simplify();
        Checks.dueRan("42 0 3 1", t);
        t.count(4);
        t.written(0);
        Checks.dueRan("42 0 3 1", t);
        Checks.due("convert of no code", Checks.NO_TERM, t::convert);
        Checks.dueRan("42 0 3 1", t);
        Checks.type(t, Samples.functions(9));
        Checks.due("convert", Checks.TOO_DEEP, t::convert);
        Checks.dueRan("42 0 3 1", t);
        Checks.type(t, Samples.BY_ZERO);
        Checks.dueRan("42 0 3 1", t);
        t.convert();
        Checks.dueRan("42 0 3 1", t);
        t.run();
        Checks.dueRan("0 0 1 0", t);
    }

    private static void itsValue() {
        Checks.sentence(9, "0 its value (0 for a function, or when it ended otherwise)");
        for (int n : new int[] {0, 5, -5, Integer.MIN_VALUE, Integer.MAX_VALUE}) {
            Checks.due("ran(0)", n, () -> ranOnce(0, n).ran(0));
        }
        Checks.due("ran(0) of a function", 0, () -> ranOnce(2, 0, 1, 0).ran(0));
        Checks.due("ran(0) of the second function", 0, () -> ranOnce(4, 0, 2, 1, 1, 1, 2, 1, 1, 1).ran(0));
        // An int was the latest value that was worked out, and then the run ended otherwise.
        Checks.due("ran(0) of 1", 0, () -> ranOnce(3, 5, 0, 0, 1, 0, 2, 0, 3).ran(0));
        Checks.due("ran(0) of 2", 0, () -> ranOnce(5, 0, 5, 0, 0, 1, 0, 2, 2, 0, 1, 0).ran(0));
        Checks.due("ran(0) of 3", 0, () -> ranOnce(5, 3, 5, 0, 0, 1, 0, 2, 0, 0).ran(0));
        Checks.due("ran(0) of 3, with a number as result", 0, () -> ranOnce(4, 0, 5, 3, 0, 1, 0, 0, 0, 7).ran(0));
        Checks.due("ran(0) of 4", 0, () -> ranOnce(Samples.countDown(6, 0, 7)).ran(0));
        Checks.due("ran(0) of 5", 0,
            () -> ranOnce(Samples.manyTimes(Checks.of(5, 0, 5, 0), Checks.of(0, 1, 0, 1))).ran(0));
    }

    private static void whetherThatIsAFunction() {
        Checks.sentence(9, "1 whether that is a function (1 or 0)");
        Checks.due("ran(1) of a function", 1, () -> ranOnce(2, 0, 1, 0).ran(1));
        Checks.due("ran(1) of a function that comes out of a row", 1, () -> ranOnce(3, 2, 0, 1, 0, 2, 0, 1, 0).ran(1));
        Checks.due("ran(1) of an int", 0, () -> ranOnce(0, 1).ran(1));
        Checks.due("ran(1) of an int below 0", 0, () -> ranOnce(0, -1).ran(1));
        // A function as the result of a run that ended otherwise.
        Checks.due("ran(1) of 1", 0, () -> ranOnce(4, 0, 3, 0, 1, 0, 2, 2, 0, 1, 0).ran(1));
        Checks.due("ran(1) of 3", 0, () -> ranOnce(4, 1, 2, 0, 1, 0, 4, 0, 5, 3, 0, 1, 0, 0, 1, 1).ran(1));
    }

    private static void howManyBindings() {
        Checks.sentence(9, "2 how many bindings were worked out (begun ones, too; at most 400)");
        Checks.due("ran(2)", 0, () -> ranOnce(0, 5).ran(2));
        Checks.due("ran(2)", 1, () -> ranOnce(Samples.SUM).ran(2));
        Checks.due("ran(2) with a function's row", 3, () -> ranOnce(Samples.CALL).ran(2));
        Checks.due("ran(2) without rows that are not worked out", 1,
            () -> ranOnce(6, 0, 1, 0, 4, 5, 0, 0, 1, 0, 2).ran(2));
        // Begun, and not ended: the division; the APPLY in whose row it is, too.
        Checks.due("ran(2) of 3", 1, () -> ranOnce(Samples.BY_ZERO).ran(2));
        Checks.due("ran(2) of 3 in a row", 3, () -> ranOnce(3, 2, 0, 5, 3, 0, 1, 1, 0, 0, 0).ran(2));
        Checks.due("ran(2) of 4", 31, () -> ranOnce(Samples.countDown(6, Samples.ZERO)).ran(2));
        Checks.due("ran(2)", 399, () -> ranOnce(Samples.manyTimes(Samples.NONE, Samples.NONE)).ran(2));
        Checks.due("ran(2)", 400, () -> ranOnce(Samples.manyTimes(Checks.of(5, 0), Samples.ONE)).ran(2));
        Checks.due("ran(2) of 5", 400,
            () -> ranOnce(Samples.manyTimes(Checks.of(5, 0, 5, 0), Checks.of(0, 1, 0, 1))).ran(2));
    }

    private static void howManyRows() {
        Checks.sentence(9, "3 how many rows lay in one another at most, besides the program's (at most 12)");
        Checks.due("ran(3)", 0, () -> ranOnce(0, 5).ran(3));
        Checks.due("ran(3) of a function that is not applied", 0, () -> ranOnce(Samples.functions(8)).ran(3));
        Checks.due("ran(3) of a row without bindings", 1, () -> ranOnce(6, 0, 1, 0, 4, 0, 5).ran(3));
        Checks.due("ran(3) of IFs in one another", 8, () -> ranOnce(Samples.firstRows(8)).ran(3));
        // Beside one another: 1. At most: 2, though the last one is 1 deep alone.
        Checks.due("ran(3)", 1, () -> ranOnce(5, 0, 6, 0, 1, 0, 4, 0, 5, 6, 0, 1, 0, 4, 0, 5).ran(3));
        Checks.due("ran(3)", 2, () -> ranOnce(5, 0, 6, 0, 1, 6, 0, 1, 0, 4, 0, 5, 0, 6, 6, 0, 1, 0, 4, 0, 5).ran(3));
        // Nothing is opened by an APPLY of an int, nor by an IF of a function.
        Checks.due("ran(3) of 1", 0, () -> ranOnce(3, 0, 1, 0, 2).ran(3));
        Checks.due("ran(3) of 2", 0, () -> ranOnce(6, 2, 0, 1, 0, 0, 1, 0, 2).ran(3));
        Checks.due("ran(3)", 10, () -> ranOnce(Samples.countDown(4, Samples.ZERO)).ran(3));
        Checks.due("ran(3)", 12, () -> ranOnce(Samples.countDown(5, Samples.ZERO)).ran(3));
        Checks.due("ran(3) of 4", 12, () -> ranOnce(Samples.countDown(6, Samples.ZERO)).ran(3));
        Checks.due("ran(3) of 4", 12, () -> ranOnce(Samples.countDown(99, Samples.ZERO)).ran(3));
    }

    private static void before() {
        Checks.sentence(9, "0 before.");
        TermSimplifier t = new TermSimplifier();
        Checks.dueRan("0 0 0 0", t);
        Checks.due("run", Checks.NO_PROGRAM, t::run);
        Checks.dueRan("0 0 0 0", t);
        Checks.type(t, Samples.CALL);
        t.convert();
        Checks.dueRan("0 0 0 0", t);
        t.simplify();
        Checks.dueRan("0 0 0 0", t);
    }

    private static void anotherWhat() {
        Checks.sentence(9, "Throws NoSuchElementException for another what.");
        TermSimplifier t = ranOnce(Samples.CALL);
        for (int what : new int[] {-1, 4, 5, Integer.MIN_VALUE, Integer.MAX_VALUE}) {
            Checks.due("ran(" + what + ")", Checks.NOTHING_SUCH, () -> t.ran(what));
            Checks.due("ran(" + what + ") before", Checks.NOTHING_SUCH, () -> new TermSimplifier().ran(what));
        }
        Checks.dueRan("42 0 3 1", t);
    }
}
