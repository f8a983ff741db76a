/** Promise 5. */
public final class Promise5SimplifyTest {
    /** The function is used in a row that is not chosen, so that the second pass alone can throw it away. */
    private static final int[] LATE = {4, 0, 2, 1, 1, 1, 6, 0, 0, 3, 1, 0, 0, 1, 0, 2};

    public static void main(String[] args) {
        untilOneDoesNothing();
        thatOneToo();
        asManyPassesAsItTakes();
        sameAsByPasses();
        endsForEndlessRuns();
        noProgram();
        Checks.end();
    }

    private static void untilOneDoesNothing() {
        Checks.sentence(5, "Makes passes until one does nothing");
        TermSimplifier t = Checks.converted(LATE);
        Checks.due("simplify", 3, t::simplify);
        Checks.dueWritten("9 0 2", t);
        Checks.dueCounts("0 1 0 1 0 4", t);
        Checks.due("pass", 0, t::pass);
    }

    private static void thatOneToo() {
        Checks.sentence(5, "how many were made, that one too");
        TermSimplifier number = Checks.converted(0, 5);
        Checks.due("simplify of a number", 1, number::simplify);
        Checks.due("simplify again", 1, number::simplify);
        TermSimplifier division = Checks.converted(Samples.BY_ZERO);
        Checks.due("simplify of what cannot be done", 1, division::simplify);
        TermSimplifier sum = Checks.converted(Samples.SUM);
        Checks.due("simplify of a sum", 2, sum::simplify);
        Checks.due("simplify again", 1, sum::simplify);
    }

    /** Functions of which each occurs in the next alone: each pass throws the last one away. */
    private static void asManyPassesAsItTakes() {
        Checks.sentence(5, "how many were made");
        for (int functions = 1; functions <= 9; functions++) {
            int[] code = {4, 0, 2, 9, 1, 9};
            for (int k = 1; k < functions; k++) {
                code = Checks.code(code, Checks.of(4, k, 2, 9, 1, k - 1));
            }
            TermSimplifier t = Checks.converted(Checks.code(code, Checks.of(0, 7)));
            Checks.due("simplify of " + functions + " functions", functions + 1, t::simplify);
            Checks.dueCounts("0 0 0 " + functions + " 0 " + 2 * functions, t);
            Checks.dueWritten("9 0 7", t);
        }
    }

    private static void sameAsByPasses() {
        Checks.sentence(5, "Makes passes until one does nothing");
        TermSimplifier t = Checks.converted(LATE);
        Checks.due("first pass", 1, t::pass);
        Checks.due("simplify after it", 2, t::simplify);
        Checks.dueCounts("0 1 0 1 0 4", t);
        TermSimplifier other = Checks.converted(LATE);
        Checks.due("first pass", 1, other::pass);
        Checks.due("second pass", 1, other::pass);
        Checks.due("third pass", 0, other::pass);
        Checks.dueWritten("9 0 2", other);
    }

    private static void endsForEndlessRuns() {
        Checks.sentence(5, "until one does nothing");
        // x x, applied to itself: one function is put in place, then the other is used twice.
        TermSimplifier t = Checks.converted(3, 2, 0, 3, 1, 0, 1, 0, 2, 0, 3, 1, 0, 1, 0);
        Checks.due("simplify", 2, t::simplify);
        Checks.dueWritten("8 5 2 3 8 4 3 1 3 1 3 9 1 4 8 1 3 1 5 1 5 9 1 1", t);
    }

    private static void noProgram() {
        Checks.sentence(5, "Throws IllegalStateException when there is no program.");
        TermSimplifier t = new TermSimplifier();
        Checks.due("simplify of a new object", Checks.NO_PROGRAM, t::simplify);
        Checks.type(t, Samples.functions(9));
        Checks.due("simplify before convert", Checks.NO_PROGRAM, t::simplify);
        Checks.due("convert", Checks.TOO_DEEP, t::convert);
        Checks.due("simplify", Checks.NO_PROGRAM, t::simplify);
        Checks.due("convert", Checks.NO_TERM, t::convert);
        Checks.due("simplify", Checks.NO_PROGRAM, t::simplify);
        Checks.type(t, Samples.SUM);
        t.convert();
        Checks.due("simplify", 2, t::simplify);
    }
}
