/** Promise 8, and what the document says of runs, their values and how they end. */
public final class Promise8RunTest {
    private static final int MIN = Integer.MIN_VALUE;
    private static final int MAX = Integer.MAX_VALUE;
    private static final int[] SELF_APPLIED = {3, 2, 0, 3, 1, 0, 1, 0, 2, 0, 3, 1, 0, 1, 0};

    public static void main(String[] args) {
        howThatEnded();
        noProgram();
        bindingsInOrder();
        functionsKeepValues();
        applications();
        operations();
        choices();
        applyOfAnInt();
        opOrIfOfAFunction();
        bothAreLookedAtBeforeDivision();
        divisionByZero();
        rowsInsideOf12Others();
        after400Bindings();
        lookedAtFirst();
        staysTheSame();
        Checks.end();
    }

    private static void howThatEnded() {
        Checks.sentence(8, "Runs the program: how that ended.");
        Checks.dueRun("0: -5 0 0 0", 0, -5);
        Checks.dueRun("0: 0 1 1 0", 2, 0, 1, 0);
        TermSimplifier t = Checks.converted(Samples.CALL);
        String written = Checks.writing(t);
        Checks.due("run", "0: 42 0 3 1", () -> Checks.runOf(t));
        Checks.due("run again", "0: 42 0 3 1", () -> Checks.runOf(t));
        Checks.dueWritten(written, t);
        Checks.dueCounts("0 0 0 0 3 4", t);
        t.simplify();
        Checks.due("run of what is left", "0: 42 0 0 0", () -> Checks.runOf(t));
    }

    private static void noProgram() {
        Checks.sentence(8, "Throws IllegalStateException when there is no program.");
        TermSimplifier t = new TermSimplifier();
        Checks.due("run of a new object", Checks.NO_PROGRAM, t::run);
        Checks.type(t, Samples.functions(9));
        Checks.due("run before convert", Checks.NO_PROGRAM, t::run);
        Checks.due("convert", Checks.TOO_DEEP, t::convert);
        Checks.due("run", Checks.NO_PROGRAM, t::run);
        Checks.due("convert", Checks.NO_TERM, t::convert);
        Checks.due("run", Checks.NO_PROGRAM, t::run);
        Checks.type(t, 0, 5);
        t.convert();
        Checks.due("run", 0, t::run);
    }

    private static void bindingsInOrder() {
        Checks.sentence(8, "A RUN works out the bindings of the program's row in order, then its result.");
        // The first error ends the run: nothing behind it is begun.
        Checks.dueRun("3: 0 0 1 0", 5, 0, 5, 3, 0, 1, 0, 0, 3, 0, 1, 0, 2);
        Checks.dueRun("1: 0 0 1 0", 5, 0, 3, 0, 1, 0, 2, 5, 3, 0, 1, 0, 0);
        // A binding whose name does not occur is worked out all the same.
        Checks.dueRun("3: 0 0 1 0", 4, 0, 5, 3, 0, 1, 0, 0, 0, 7);
        Checks.dueRun("0: 7 0 1 0", Samples.UNUSED);
    }

    private static void functionsKeepValues() {
        Checks.sentence(8, "FUN: a function, which keeps the values of all names that it can see.");
        // One function made twice, with 10 and with 20: (20 - 3) - (10 - 3).
        Checks.dueRun("0: 10 0 10 1", 4, 0, 2, 1, 2, 2, 5, 1, 1, 1, 1, 2, 4, 3, 3, 1, 0, 0, 10, 4, 4, 3, 1, 0, 0, 20,
            5, 1, 3, 1, 4, 0, 3, 3, 1, 3, 0, 3);
        // A value of the program's row, seen in a function two rows in: 3 + 4.
        Checks.dueRun("0: 7 0 6 1", 4, 0, 5, 0, 0, 1, 0, 2, 3, 3, 2, 1, 2, 2, 5, 0, 1, 0, 1, 2, 0, 0, 0, 4);
        // The row of a function is not worked out where it stands.
        Checks.dueRun("0: 0 1 1 0", 2, 0, 5, 3, 0, 1, 0, 0);
    }

    private static void applications() {
        Checks.sentence(8, "APPLY: the row of a's function with p as b's value: its result's value.");
        Checks.dueRun("0: 7 0 2 1", 3, 2, 0, 1, 0, 0, 7);
        Checks.dueRun("0: 9 0 2 1", 3, 2, 0, 0, 9, 0, 7);
        Checks.dueRun("0: 0 1 3 1", 3, 2, 0, 1, 0, 2, 0, 1, 0);
        Checks.dueRun("0: 0 1 3 1", 3, 2, 0, 2, 1, 1, 0, 0, 5);
        // Applied again, to what it came to: (3 + 1) + 1.
        Checks.dueRun("0: 5 0 5 1", 4, 0, 2, 1, 5, 0, 1, 1, 0, 1, 3, 1, 0, 3, 1, 0, 0, 3);
    }

    private static void operations() {
        Checks.sentence(8, "OP as said (ints, which wrap; / as Java's; < 1 or 0).");
        Checks.dueRun("0: " + MIN + " 0 1 0", 5, 0, 0, MAX, 0, 1);
        Checks.dueRun("0: -2 0 1 0", 5, 0, 0, MAX, 0, MAX);
        Checks.dueRun("0: 0 0 1 0", 5, 0, 0, MIN, 0, MIN);
        Checks.dueRun("0: " + MAX + " 0 1 0", 5, 1, 0, MIN, 0, 1);
        Checks.dueRun("0: " + MIN + " 0 1 0", 5, 1, 0, 0, 0, MIN);
        Checks.dueRun("0: -2 0 1 0", 5, 2, 0, MAX, 0, 2);
        Checks.dueRun("0: 0 0 1 0", 5, 2, 0, 65536, 0, 65536);
        Checks.dueRun("0: -3 0 1 0", 5, 3, 0, -7, 0, 2);
        Checks.dueRun("0: -3 0 1 0", 5, 3, 0, 7, 0, -2);
        Checks.dueRun("0: 7 0 1 0", 5, 3, 0, 7, 0, 1);
        Checks.dueRun("0: -7 0 1 0", 5, 3, 0, 7, 0, -1);
        Checks.dueRun("0: 0 0 1 0", 5, 3, 0, -1, 0, 2);
        Checks.dueRun("0: " + MIN + " 0 1 0", 5, 3, 0, MIN, 0, -1);
        Checks.dueRun("0: 0 0 1 0", 5, 3, 0, 0, 0, 7);
        Checks.dueRun("0: 1 0 1 0", 5, 4, 0, MIN, 0, MAX);
        Checks.dueRun("0: 0 0 1 0", 5, 4, 0, MAX, 0, MIN);
        Checks.dueRun("0: 0 0 1 0", 5, 4, 0, 3, 0, 3);
        Checks.dueRun("0: 1 0 1 0", 5, 4, 0, -1, 0, 0);
    }

    private static void choices() {
        Checks.sentence(8, "IF: the row r, or s if a's value is 0: its result's value.");
        for (int c : new int[] {1, -1, MIN, MAX}) {
            Checks.dueRun("0: 4 0 1 1", 6, 0, c, 0, 4, 0, 5);
        }
        Checks.dueRun("0: 5 0 1 1", 6, 0, 0, 0, 4, 0, 5);
        Checks.dueRun("0: 0 1 2 1", 6, 0, 0, 0, 4, 2, 0, 1, 0);
        // A row that is not chosen makes no error.
        Checks.dueRun("0: 5 0 1 1", 6, 0, 1, 0, 5, 5, 3, 0, 1, 0, 0);
        Checks.dueRun("0: 5 0 1 1", 6, 0, 0, 5, 3, 0, 1, 0, 0, 0, 5);
    }

    private static void applyOfAnInt() {
        Checks.sentence(8, "1: APPLY of an int");
        Checks.dueRun("1: 0 0 1 0", 3, 0, 1, 0, 2);
        Checks.dueRun("1: 0 0 1 0", 3, 0, 0, 0, 2);
        Checks.dueRun("1: 0 0 2 0", 3, 0, 1, 2, 0, 1, 0);
        Checks.dueRun("1: 0 0 2 0", 3, 5, 0, 0, 1, 0, 2, 0, 3);
        Checks.dueRun("1: 0 0 3 1", 3, 2, 0, 3, 1, 0, 0, 2, 0, 1);
        // An int that might be taken for a function.
        Checks.dueRun("1: 0 0 2 0", 4, 0, 2, 1, 1, 1, 3, 0, 0, 1, 0);
        Checks.dueRun("1: 0 0 1 0", 3, 0, MIN, 0, 2);
        Checks.dueRun("1: 0 0 1 0", 3, 0, -1, 0, 2);
    }

    private static void opOrIfOfAFunction() {
        Checks.sentence(8, "2: OP or IF of a function");
        for (int o = 0; o <= 4; o++) {
            Checks.dueRun("2: 0 0 2 0", 5, o, 2, 0, 1, 0, 0, 1);
            Checks.dueRun("2: 0 0 2 0", 5, o, 0, 1, 2, 0, 1, 0);
            Checks.dueRun("2: 0 0 3 0", 5, o, 2, 0, 1, 0, 2, 0, 1, 0);
        }
        Checks.dueRun("2: 0 0 2 0", 6, 2, 0, 1, 0, 0, 1, 0, 2);
        Checks.dueRun("2: 0 0 4 1", 3, 2, 0, 5, 0, 1, 0, 0, 1, 2, 0, 1, 0);
    }

    private static void bothAreLookedAtBeforeDivision() {
        Checks.sentence(8, "(of OP both are looked at before 3)");
        Checks.dueRun("2: 0 0 2 0", 5, 3, 2, 0, 1, 0, 0, 0);
        Checks.dueRun("2: 0 0 2 0", 5, 3, 0, 0, 2, 0, 1, 0);
    }

    private static void divisionByZero() {
        Checks.sentence(8, "3: / by 0");
        Checks.dueRun("3: 0 0 1 0", Samples.BY_ZERO);
        Checks.dueRun("3: 0 0 1 0", 5, 3, 0, 0, 0, 0);
        Checks.dueRun("3: 0 0 1 0", 5, 3, 0, MIN, 0, 0);
        Checks.dueRun("3: 0 0 2 0", 5, 3, 0, 7, 5, 1, 0, 4, 0, 4);
        Checks.dueRun("3: 0 0 3 1", 3, 2, 0, 5, 3, 0, 1, 1, 0, 0, 0);
        Checks.dueRun("3: 0 0 2 1", 6, 0, 1, 5, 3, 0, 1, 0, 0, 0, 5);
        Checks.dueRun("0: 7 0 1 0", 5, 0, 0, 7, 0, 0);
    }

    private static void rowsInsideOf12Others() {
        Checks.sentence(8, "4: a row (of an APPLY or an IF) inside of 12 others, besides the program's");
        Checks.dueRun("0: 0 0 30 12", Samples.countDown(5, Samples.ZERO));
        // The 13th row is that of an APPLY; with an IF around it all, it is that of an IF.
        Checks.dueRun("4: 0 0 31 12", Samples.countDown(6, Samples.ZERO));
        Checks.dueRun("0: 0 0 26 11", Checks.code(Checks.of(6, 0, 1), Samples.countDown(4, Samples.ZERO), Samples.ZERO));
        Checks.dueRun("4: 0 0 31 12", Checks.code(Checks.of(6, 0, 1), Samples.countDown(5, Samples.ZERO), Samples.ZERO));
        Checks.dueRun("4: 0 0 15 12", SELF_APPLIED);
        // In the 12th row: what needs no row of its own, and what ends before it has one.
        Checks.dueRun("0: 3 0 31 12", Samples.countDown(5, Samples.SUM));
        Checks.dueRun("3: 0 0 31 12", Samples.countDown(5, Samples.BY_ZERO));
        Checks.dueRun("1: 0 0 31 12", Samples.countDown(5, 3, 0, 1, 0, 2));
        Checks.dueRun("2: 0 0 31 12", Samples.countDown(5, 6, 1, 1, 0, 0, 0, 0));
        // A row without a binding counts like any other.
        Checks.dueRun("4: 0 0 31 12", Samples.countDown(5, 6, 0, 1, 0, 0, 0, 0));
        Checks.dueRun("4: 0 0 31 12", Samples.countDown(5, 6, 0, 0, 0, 0, 0, 0));
        Checks.dueRun("4: 0 0 32 12", Samples.countDown(5, 3, 2, 3, 1, 3, 0, 0));
        // Rows that come one after another do not lie in one another.
        Checks.dueRun("0: 128 0 399 8", Samples.manyTimes(Samples.NONE, Samples.NONE));
    }

    private static void after400Bindings() {
        Checks.sentence(8, "5: a binding after the 400th");
        Checks.dueRun("0: 129 0 400 8", Samples.manyTimes(Checks.of(5, 0), Samples.ONE));
        Checks.dueRun("5: 0 0 400 8", Samples.manyTimes(Checks.of(5, 0, 5, 0), Checks.code(Samples.ONE, Samples.ONE)));
        // As the 400th: each kind of binding, well and with its error.
        Checks.dueRun("0: 0 1 400 8", Samples.manyTimes(Checks.of(4, 5), Checks.of(2, 1, 1, 1)));
        Checks.dueRun("0: 7 0 400 8", Samples.manyTimes(Checks.of(6), Checks.of(0, 7, 0, 0)));
        Checks.dueRun("1: 0 0 400 8", Samples.manyTimes(Checks.of(3), Samples.ONE));
        Checks.dueRun("2: 0 0 400 8", Samples.manyTimes(Checks.of(4, 5), Checks.of(6, 1, 0, 0, 1, 0, 2)));
        Checks.dueRun("2: 0 0 400 8", Samples.manyTimes(Checks.of(4, 5), Checks.of(5, 3, 1, 0, 0, 0)));
        Checks.dueRun("3: 0 0 400 8", Samples.manyTimes(Checks.of(5, 3), Samples.ZERO));
        // The 400th opens a row whose first binding is the 401st.
        Checks.dueRun("5: 0 0 400 8", Samples.manyTimes(Checks.of(6), Checks.of(5, 0, 0, 1, 0, 1, 0, 0)));
        // The 400th opens a row inside of 12 others: no binding came after it.
        Checks.dueRun("4: 0 0 400 12", Samples.lateAndDeep(Checks.of(3, 2, 1, 1, 1, 0, 90), 3, 1, 0, 1, 0));
    }

    private static void lookedAtFirst() {
        Checks.sentence(8, "(looked at first)");
        // As the 401st: what would end otherwise, and what would end well.
        int[] before = {4, 5, 5, 0};
        Checks.dueRun("5: 0 0 400 8", Samples.manyTimes(Checks.of(3, 5, 0), Checks.code(Samples.ONE, Samples.ONE)));
        Checks.dueRun("5: 0 0 400 8", Samples.manyTimes(before, Checks.code(Samples.ONE, Checks.of(5, 0, 1, 0, 0, 1))));
        Checks.dueRun("5: 0 0 400 8", Samples.manyTimes(before, Checks.code(Samples.ONE, Checks.of(6, 1, 0, 0, 1, 0, 2))));
        Checks.dueRun("5: 0 0 400 8", Samples.manyTimes(Checks.of(5, 3, 5, 0), Checks.code(Samples.ONE, Samples.ZERO)));
        Checks.dueRun("5: 0 0 400 8", Samples.manyTimes(before, Checks.code(Samples.ONE, Checks.of(2, 1, 1, 1))));
        // The 398th opens a row inside of 12 others; a step later it would be the 401st.
        Checks.dueRun("4: 0 0 398 12", Samples.lateAndDeep(Checks.of(0, 90), 3, 1, 0, 1, 0));
        Checks.dueRun("5: 0 0 400 12", Samples.lateAndDeep(Checks.of(0, 91), 3, 1, 0, 1, 0));
        Checks.dueRun("4: 0 0 398 12", Samples.lateAndDeep(Checks.of(0, 90), 6, 0, 0, 0, 0, 0, 0));
        Checks.dueRun("5: 0 0 400 12", Samples.lateAndDeep(Checks.of(0, 91), 6, 0, 0, 0, 0, 0, 0));
    }

    private static void staysTheSame() {
        Checks.sentence(8, "what a program comes to, and which error it makes, stays the same (but for the errors 4 and 5, which may go)");
        dueOnceSimplified("0: 42 0 3 1", "0: 42 0 0 0", Samples.CALL);
        dueOnceSimplified("1: 0 0 3 1", "1: 0 0 1 0", 3, 2, 0, 3, 1, 0, 0, 2, 0, 1);
        dueOnceSimplified("2: 0 0 4 1", "2: 0 0 2 0", 3, 2, 0, 5, 0, 1, 0, 0, 1, 2, 0, 1, 0);
        dueOnceSimplified("3: 0 0 3 1", "3: 0 0 1 0", 3, 2, 0, 5, 3, 0, 1, 1, 0, 0, 0);
        dueOnceSimplified("4: 0 0 15 12", "4: 0 0 14 12", SELF_APPLIED);
        // The IF around it goes away, and with it the 13th row; what came too late for an error comes to it then.
        dueOnceSimplified("4: 0 0 31 12", "0: 0 0 30 12",
            Checks.code(Checks.of(6, 0, 1), Samples.countDown(5, Samples.ZERO), Samples.ZERO));
        dueOnceSimplified("4: 0 0 31 12", "3: 0 0 31 12",
            Checks.code(Checks.of(6, 0, 1), Samples.countDown(5, Samples.BY_ZERO), Samples.ZERO));
        // A sum goes away, and with it the 401st binding.
        dueOnceSimplified("5: 0 0 400 8", "0: 130 0 400 8",
            Samples.manyTimes(Checks.of(5, 0, 5, 0, 0, 1, 0, 1), Samples.NONE));
    }

    private static void dueOnceSimplified(String before, String after, int... code) {
        TermSimplifier t = Checks.converted(code);
        Checks.due("run of " + java.util.Arrays.toString(code), before, () -> Checks.runOf(t));
        t.simplify();
        Checks.due("run of what is left of " + java.util.Arrays.toString(code), after, () -> Checks.runOf(t));
    }
}
