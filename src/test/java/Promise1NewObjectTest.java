/** Promise 1, and how long an object is used. */
public final class Promise1NewObjectTest {
    private static final int CALLS = 512;

    public static void main(String[] args) {
        noCode();
        noProgram();
        nothingOfAnother();
        usedForAtMost512Calls();
        Checks.end();
    }

    private static void noCode() {
        Checks.sentence(1, "No code");
        Checks.due("convert of no code", Checks.NO_TERM, () -> new TermSimplifier().convert());
        // Nothing stands before what is typed, and there is room for 60.
        Checks.dueConvert(0, 0, 5);
        Checks.dueWritten("9 0 5", Checks.converted(0, 5));
        TermSimplifier t = Checks.typed(Checks.times(60, 0));
        Checks.due("61st type", false, () -> t.type(0));
    }

    private static void noProgram() {
        Checks.sentence(1, "no program");
        TermSimplifier t = new TermSimplifier();
        Checks.due("pass", Checks.NO_PROGRAM, t::pass);
        Checks.due("simplify", Checks.NO_PROGRAM, t::simplify);
        Checks.due("run", Checks.NO_PROGRAM, t::run);
        Checks.due("written(0)", Checks.NOTHING_SUCH, () -> t.written(0));
        Checks.dueCounts("0 0 0 0 0 0", t);
        Checks.dueRan("0 0 0 0", t);
    }

    private static void nothingOfAnother() {
        Checks.sentence(1, "A new object");
        TermSimplifier used = Checks.converted(Samples.CALL);
        used.run();
        used.simplify();
        Checks.type(used, Samples.SUM);
        TermSimplifier t = new TermSimplifier();
        Checks.due("convert", Checks.NO_TERM, t::convert);
        Checks.due("run", Checks.NO_PROGRAM, t::run);
        Checks.dueCounts("0 0 0 0 0 0", t);
        Checks.dueRan("0 0 0 0", t);
        Checks.type(t, Samples.ZERO);
        t.convert();
        t.run();
        Checks.dueWritten("9 0 0", t);
        Checks.dueRan("42 0 3 1", used);
        Checks.due("convert of the code of the other", 1, used::convert);
    }

    private static void usedForAtMost512Calls() {
        Checks.sentence(1, "An object is used for at most 512 calls after it has been made");
        int[] longRun = Samples.manyTimes(Samples.NONE, Samples.NONE);
        dueToTheLast(longRun, 0, "run", TermSimplifier::run);
        dueToTheLast(longRun, 1, "simplify", TermSimplifier::simplify);
        dueToTheLast(longRun, 0, "pass", TermSimplifier::pass);
        dueToTheLast(longRun, 8, "written(0)", t -> t.written(0));
        dueToTheLast(longRun, 14, "count(4)", t -> t.count(4));
        dueToTheLast(Samples.ZERO, Checks.NO_TERM, "convert", TermSimplifier::convert);
        TermSimplifier t = Checks.typed(Checks.times(60, 0));
        for (int k = 61; k <= CALLS; k++) {
            Checks.due(k + "th type", false, () -> t.type(0));
        }
        convertedToTheLast();
    }

    private interface Use {
        Object of(TermSimplifier t);
    }

    /** The code is typed and converted; all calls that are left are this one. */
    private static void dueToTheLast(int[] code, Object want, String call, Use use) {
        TermSimplifier t = Checks.converted(code);
        for (int k = code.length + 2; k <= CALLS; k++) {
            Checks.due("call " + k + ", " + call, want, () -> use.of(t));
        }
    }

    /** A program of 8 functions, again and again: 19 calls each. */
    private static void convertedToTheLast() {
        TermSimplifier t = new TermSimplifier();
        for (int calls = 19; calls < CALLS; calls += 19) {
            Checks.type(t, Samples.functions(8));
            Checks.due("convert", 8, t::convert);
        }
        Checks.due("count(4)", 8, () -> t.count(4));
    }
}
