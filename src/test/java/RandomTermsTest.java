import java.util.Arrays;
import java.util.stream.Collectors;

/** Compares the class with Model on many terms, made with a fixed seed, and on codes that are no terms. */
public final class RandomTermsTest {
    private static final int TERMS = 30000;

    private final RandomTerms terms = new RandomTerms(20261115);
    private final int[] endings = new int[6];
    private final int[] steps = new int[4];
    private int refused = 0;
    private int tooDeep = 0;
    private int deepestAfter = 0;

    public static void main(String[] args) {
        RandomTermsTest test = new RandomTermsTest();
        for (int k = 0; k < TERMS; k++) {
            test.compare(test.terms.newCode());
        }
        test.checkThatAllWasSeen();
        Checks.end();
    }

    private void compare(int[] code) {
        String want = "";
        try {
            want += new Model(code).bindings();
        } catch (Model.NoTerm e) {
            want = Checks.NO_TERM;
            refused++;
        } catch (Model.TooDeep e) {
            want = Checks.TOO_DEEP;
            tooDeep++;
        }
        String due = want;
        String text = Arrays.toString(code);
        Checks.due("convert() of " + text, due, () -> "" + Checks.typed(code).convert());
        if (!due.startsWith("Ill") && !due.startsWith("Uns")) {
            compareStages(code, text);
        }
    }

    /** A new object for each stage, as one object may be asked 512 times alone. */
    private void compareStages(int[] code, String text) {
        int ending = -1;
        Object value = null;
        for (int stage = 0; stage <= 3; stage++) {
            Model model = new Model(code);
            TermSimplifier object = Checks.converted(code);
            String call = "stage " + stage + " of " + text;
            for (int k = 0; k < Math.min(stage, 2); k++) {
                Checks.due(call + ": pass()", model.pass(), object::pass);
            }
            if (stage == 3) {
                Checks.due(call + ": simplify()", model.simplify(), object::simplify);
            }
            compareAll(call, model, object);
            int now = model.run();
            if (stage > 0 && ending < 4) {
                boolean same = now == ending && (value.equals(model.value) || value instanceof Model.Closure
                        && model.value instanceof Model.Closure);
                Checks.due(call + ": what it comes to stays", true, () -> same);
            }
            ending = now;
            value = model.value;
            endings[now]++;
            for (int k = 0; k < 4; k++) {
                steps[k] += model.steps[k];
            }
            deepestAfter = Math.max(deepestAfter, depthOf(model.program));
        }
    }

    private static void compareAll(String call, Model model, TermSimplifier object) {
        String counts = model.steps[0] + " " + model.steps[1] + " " + model.steps[2] + " " + model.steps[3] + " "
                + model.bindings() + " " + model.names;
        Checks.due(call + ": counts", counts, () -> Checks.countsOf(object));
        String numbers = model.written().stream().map(n -> "" + n).collect(Collectors.joining(" "));
        Checks.due(call + ": written", numbers, () -> Checks.writing(object));
        int ending = model.run();
        boolean function = model.value instanceof Model.Closure;
        String run = ending + ": " + (function ? 0 : model.value) + " " + (function ? 1 : 0) + " " + model.begun + " "
                + model.deepest;
        Checks.due(call + ": run", run, () -> Checks.runOf(object));
    }

    private static int depthOf(Model.Block block) {
        int deepest = 0;
        for (Model.Item item : block.items) {
            for (Model.Block inner : item.blocks) {
                deepest = Math.max(deepest, 1 + depthOf(inner));
            }
        }
        return deepest;
    }

    /** Terms that never come to an error, or to a step, would show nothing of it. */
    private void checkThatAllWasSeen() {
        System.out.println("refused " + refused + ", too deep " + tooDeep + ", endings "
                + Arrays.toString(endings) + ", steps " + Arrays.toString(steps)
                + ", rows lay " + deepestAfter + " deep");
        for (int how = 0; how < 6; how++) {
            int seen = endings[how];
            Checks.due("runs that ended with " + how, true, () -> seen > 0);
        }
        for (int step = 0; step < 4; step++) {
            int seen = steps[step];
            Checks.due("steps of kind " + step, true, () -> seen > 0);
        }
        Checks.due("codes that are no terms", true, () -> refused > 0);
        Checks.due("terms that are too deep", true, () -> tooDeep > 0);
        Checks.due("rows that came to lie deeper than 8", true, () -> deepestAfter > 8);
    }
}
