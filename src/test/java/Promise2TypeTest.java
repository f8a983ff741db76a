/** Promise 2. */
public final class Promise2TypeTest {
    /** LET after LET of 1, and the last of them: 60 ints. */
    private static final int[] SIXTY = Checks.code(Checks.times(14, 4, 9, 0, 1), Checks.of(2, 0, 1, 9));

    public static void main(String[] args) {
        putsAnIntBehindTheCode();
        changesNothingElse();
        falseWhenThereAre60();
        trueAgainWhenTheCodeIsEmpty();
        Checks.end();
    }

    private static void putsAnIntBehindTheCode() {
        Checks.sentence(2, "Puts an int behind the code: true");
        for (int n : new int[] {0, 1, -1, 7, 60, Integer.MIN_VALUE, Integer.MAX_VALUE}) {
            Checks.due("type(" + n + ")", true, () -> new TermSimplifier().type(n));
            Checks.dueWritten("9 0 " + n, Checks.converted(0, n));
        }
        // 5 1 0 3 0 4 is another term than 5 1 0 4 0 3: the order counts.
        Checks.dueWritten("8 0 5 1 0 3 0 4 9 1 0", Checks.converted(5, 1, 0, 3, 0, 4));
        TermSimplifier t = new TermSimplifier();
        for (int k = 1; k <= 60; k++) {
            Checks.due(k + "th type", true, () -> t.type(0));
        }
    }

    private static void changesNothingElse() {
        Checks.sentence(2, "Puts an int behind the code");
        TermSimplifier t = Checks.converted(Samples.CALL);
        t.run();
        t.pass();
        Checks.type(t, 5, 0, 0);
        Checks.dueWritten("9 0 42", t);
        Checks.dueCounts("1 0 1 0 0 4", t);
        Checks.dueRan("42 0 3 1", t);
        Checks.type(t, 1, 0, 2);
        Checks.due("convert of the code that was typed in two parts", 1, t::convert);
    }

    private static void falseWhenThereAre60() {
        Checks.sentence(2, "false when there are 60");
        TermSimplifier t = Checks.typed(SIXTY);
        Checks.due("61st type", false, () -> t.type(0));
        Checks.due("62nd type", false, () -> t.type(Integer.MIN_VALUE));
        // What was refused does not stand in the code: neither behind it nor in place of its last int.
        Checks.due("convert of the 60", 1, t::convert);
        Checks.dueWritten("8 1 2 0 9 0 1 9 1 1", t);
        TermSimplifier cut = Checks.typed(Checks.code(Checks.times(28, 2, 0), Checks.of(5, 0, 0, 1)));
        Checks.due("61st type", false, () -> cut.type(0));
        Checks.due("62nd type", false, () -> cut.type(2));
        Checks.due("convert of a term whose end did not fit", Checks.NO_TERM, cut::convert);
    }

    private static void trueAgainWhenTheCodeIsEmpty() {
        Checks.sentence(2, "false when there are 60");
        int[][] full = {SIXTY, Checks.times(60, 0), Samples.functions(29)};
        Object[] answers = {1, Checks.NO_TERM, Checks.TOO_DEEP};
        for (int k = 0; k < full.length; k++) {
            TermSimplifier t = Checks.typed(full[k]);
            Checks.due("61st type", false, () -> t.type(0));
            Checks.due("convert", answers[k], t::convert);
            for (int n = 1; n <= 60; n++) {
                Checks.due(n + "th type of the next code", true, () -> t.type(0));
            }
            Checks.due("61st type of the next code", false, () -> t.type(0));
        }
    }
}
