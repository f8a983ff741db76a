/** Promise 6. */
public final class Promise6CountTest {
    /** LET 0 be FUN x: x + 1, in IF 1 (0 41) 0. */
    private static final int[] THREE_KINDS = {4, 0, 2, 1, 5, 0, 1, 1, 0, 1, 6, 0, 1, 3, 1, 0, 0, 41, 0, 0};

    public static void main(String[] args) {
        sinceTheLatestConvert();
        refusedCodeIsNotConverted();
        stepsByKind();
        bindingsNow();
        namesMade();
        withoutAProgram();
        anotherWhat();
        Checks.end();
    }

    private static void sinceTheLatestConvert() {
        Checks.sentence(6, "Since the latest convert");
        TermSimplifier t = Checks.converted(THREE_KINDS);
        Checks.dueCounts("0 0 0 0 4 5", t);
        t.pass();
        Checks.dueCounts("1 1 1 0 0 5", t);
        t.run();
        t.simplify();
        Checks.type(t, Samples.UNUSED);
        Checks.dueCounts("1 1 1 0 0 5", t);
        t.convert();
        Checks.dueCounts("0 0 0 0 1 2", t);
        t.simplify();
        Checks.dueCounts("0 0 0 1 0 2", t);
        // The same code again: everything begins anew.
        Checks.type(t, Samples.UNUSED);
        t.convert();
        Checks.dueCounts("0 0 0 0 1 2", t);
        // What several passes did is added up.
        Checks.type(t, 4, 0, 2, 9, 1, 9, 4, 1, 2, 9, 1, 0, 0, 7);
        t.convert();
        t.pass();
        Checks.dueCounts("0 0 0 1 1 4", t);
        t.pass();
        Checks.dueCounts("0 0 0 2 0 4", t);
        t.pass();
        Checks.dueCounts("0 0 0 2 0 4", t);
    }

    private static void refusedCodeIsNotConverted() {
        Checks.sentence(6, "Since the latest convert");
        TermSimplifier t = Checks.converted(THREE_KINDS);
        t.pass();
        Checks.due("convert", Checks.NO_TERM, t::convert);
        Checks.dueCounts("1 1 1 0 0 5", t);
        Checks.type(t, Samples.functions(9));
        Checks.due("convert", Checks.TOO_DEEP, t::convert);
        Checks.dueCounts("1 1 1 0 0 5", t);
    }

    private static void stepsByKind() {
        Checks.sentence(6, "how many FOLD (what 0), CHOOSE (1), INLINE (2), DROP (3) were done");
        dueOncePassed("1 0 0 0 0 1", Samples.SUM);
        dueOncePassed("0 1 0 0 0 1", 6, 0, 1, 0, 4, 0, 5);
        dueOncePassed("0 0 1 0 0 3", 3, 2, 0, 1, 0, 0, 7);
        dueOncePassed("0 0 0 1 0 2", Samples.UNUSED);
        dueOncePassed("3 0 0 0 0 3", 5, 0, 5, 0, 0, 1, 0, 2, 5, 0, 0, 3, 0, 4);
        dueOncePassed("0 0 0 0 1 1", Samples.BY_ZERO);
    }

    private static void dueOncePassed(String want, int... code) {
        TermSimplifier t = Checks.converted(code);
        t.pass();
        Checks.dueCounts(want, t);
    }

    private static void bindingsNow() {
        Checks.sentence(6, "4 how many bindings the program has now, in all rows");
        TermSimplifier number = Checks.converted(0, 5);
        Checks.due("count(4)", 0, () -> number.count(4));
        // FUN 0: IF 0 (1 + 2) (1 / 0): of four bindings the sum alone goes.
        TermSimplifier t = Checks.converted(2, 0, 6, 1, 0, 5, 0, 0, 1, 0, 2, 5, 3, 0, 1, 0, 0);
        Checks.due("count(4)", 4, () -> t.count(4));
        t.pass();
        Checks.due("count(4)", 3, () -> t.count(4));
        TermSimplifier deep = Checks.converted(Samples.functions(8));
        Checks.due("count(4)", 8, () -> deep.count(4));
        TermSimplifier full = Checks.converted(Checks.code(Checks.of(3, 3, 3, 3), Samples.functions(8),
            Samples.functions(8), Samples.functions(7), Samples.ZERO, Samples.ZERO));
        Checks.due("count(4)", 27, () -> full.count(4));
    }

    private static void namesMade() {
        Checks.sentence(6, "5 how many names were made");
        TermSimplifier number = Checks.converted(4, 0, 0, 5, 1, 0);
        Checks.due("count(5) of a LET", 0, () -> number.count(5));
        TermSimplifier function = Checks.converted(2, 0, 1, 0);
        Checks.due("count(5) of a FUN", 2, () -> function.count(5));
        TermSimplifier t = Checks.converted(Samples.CALL);
        Checks.due("count(5)", 4, () -> t.count(5));
        t.simplify();
        Checks.due("count(5) when all names are gone", 4, () -> t.count(5));
        // 23 functions, each with its parameter, and 4 applications.
        TermSimplifier full = Checks.converted(Checks.code(Checks.of(3, 3, 3, 3), Samples.functions(8),
            Samples.functions(8), Samples.functions(7), Samples.ZERO, Samples.ZERO));
        Checks.due("count(5)", 50, () -> full.count(5));
    }

    private static void withoutAProgram() {
        Checks.sentence(6, "0 without a program.");
        TermSimplifier t = new TermSimplifier();
        Checks.dueCounts("0 0 0 0 0 0", t);
        Checks.type(t, Samples.functions(9));
        Checks.dueCounts("0 0 0 0 0 0", t);
        Checks.due("convert", Checks.TOO_DEEP, t::convert);
        Checks.dueCounts("0 0 0 0 0 0", t);
        Checks.type(t, 5, 0, 0, 1, 1, 0);
        Checks.due("convert", Checks.NO_TERM, t::convert);
        Checks.dueCounts("0 0 0 0 0 0", t);
    }

    private static void anotherWhat() {
        Checks.sentence(6, "Throws NoSuchElementException for another what.");
        TermSimplifier t = Checks.converted(THREE_KINDS);
        TermSimplifier without = new TermSimplifier();
        for (int what : new int[] {-1, 6, 7, Integer.MIN_VALUE, Integer.MAX_VALUE}) {
            Checks.due("count(" + what + ")", Checks.NOTHING_SUCH, () -> t.count(what));
            Checks.due("count(" + what + ") without a program", Checks.NOTHING_SUCH, () -> without.count(what));
        }
        Checks.dueCounts("0 0 0 0 4 5", t);
    }
}
