import java.util.ArrayList;
import java.util.List;
import java.util.Map;
import java.util.Random;
import java.util.TreeMap;

/**
 * Objects that are used for 512 calls each, in an order made with a fixed seed: what a call leaves behind for the
 * ones after it is compared with what Model and the document's words on the code, the program and the latest run say.
 */
public final class RandomCallsTest {
    private static final int OBJECTS = 1500;
    private static final int CALLS = 512;
    private static final int[] ARGUMENTS = {-1, 0, 1, 2, 3, 4, 5, 6, Integer.MIN_VALUE, Integer.MAX_VALUE};

    private final Random random = new Random(20261116);
    private final RandomTerms terms = new RandomTerms(20261117);
    private final Map<String, Integer> seen = new TreeMap<>();

    private TermSimplifier object;
    private List<Integer> code;
    private Model program;
    private int[] ran;
    private List<Integer> waiting;

    public static void main(String[] args) {
        RandomCallsTest test = new RandomCallsTest();
        for (int k = 1; k <= OBJECTS; k++) {
            test.useAnObject(k);
        }
        test.checkThatAllWasSeen();
        Checks.end();
    }

    private void useAnObject(int number) {
        object = new TermSimplifier();
        code = new ArrayList<>();
        program = null;
        ran = new int[4];
        waiting = new ArrayList<>();
        for (int k = 1; k <= CALLS; k++) {
            call("object " + number + ", call " + k + ": ");
        }
    }

    private void call(String which) {
        if (waiting.isEmpty() && code.isEmpty() && random.nextInt(12) == 0) {
            beginAnotherCode();
        }
        if (!waiting.isEmpty() && random.nextInt(12) > 0) {
            type(which, waiting.remove(0));
        } else if (random.nextInt(waiting.isEmpty() && !code.isEmpty() ? 3 : 60) == 0) {
            convert(which);
        } else {
            useTheProgram(which);
        }
    }

    private void useTheProgram(String which) {
        int what = ARGUMENTS[random.nextInt(ARGUMENTS.length)];
        switch (random.nextInt(10)) {
            case 0, 1:
                due(which, "pass", program == null ? Checks.NO_PROGRAM : program.pass(), () -> object.pass());
                break;
            case 2:
                due(which, "simplify", program == null ? Checks.NO_PROGRAM : program.simplify(), () -> object.simplify());
                break;
            case 3:
                due(which, "run", program == null ? Checks.NO_PROGRAM : run(), () -> object.run());
                break;
            case 4, 5:
                due(which, "count(" + what + ")", countOf(what), () -> object.count(what));
                break;
            case 6, 7:
                written(which);
                break;
            default:
                due(which, "ran(" + what + ")", ranOf(what), () -> object.ran(what));
        }
    }

    /** Now and then it is more than fits. */
    private void beginAnotherCode() {
        for (int n : terms.newCode()) {
            waiting.add(n);
        }
        for (int more = random.nextInt(30) == 0 ? 61 : 0; more > 0; more--) {
            waiting.add(random.nextInt(7));
        }
    }

    private void type(String which, int n) {
        boolean fits = code.size() < 60;
        if (fits) {
            code.add(n);
        }
        due(which, "type(" + n + ")", fits, () -> object.type(n));
    }

    private void convert(String which) {
        Object answer;
        try {
            Model made = new Model(code.stream().mapToInt(n -> n).toArray());
            program = made;
            answer = made.bindings();
        } catch (Model.NoTerm e) {
            answer = Checks.NO_TERM;
        } catch (Model.TooDeep e) {
            answer = Checks.TOO_DEEP;
        }
        code.clear();
        due(which, "convert", answer, () -> object.convert());
    }

    private int run() {
        int ending = program.run();
        boolean function = program.value instanceof Model.Closure;
        ran = new int[] {function ? 0 : (Integer) program.value, function ? 1 : 0, program.begun, program.deepest};
        return ending;
    }

    private Object countOf(int what) {
        if (what < 0 || what > 5) {
            return Checks.NOTHING_SUCH;
        }
        if (program == null) {
            return 0;
        }
        return what < 4 ? program.steps[what] : what == 4 ? program.bindings() : program.names;
    }

    private Object ranOf(int what) {
        return what < 0 || what >= ran.length ? Checks.NOTHING_SUCH : (Object) ran[what];
    }

    private void written(String which) {
        List<Integer> numbers = program == null ? List.of() : program.written();
        int k = random.nextInt(numbers.size() + 2) - 1;
        Object answer = k >= 0 && k < numbers.size() ? numbers.get(k) : Checks.NOTHING_SUCH;
        due(which, "written(" + k + ")", answer, () -> object.written(k));
    }

    private void due(String which, String call, Object want, Checks.Call got) {
        String name = call.replaceAll("\\(.*", "");
        seen.merge(name + (want instanceof Integer ? "" : ", " + want), 1, Integer::sum);
        Checks.due(which + call, want, got);
    }

    /** Calls that always answer, or always throw, would show little. */
    private void checkThatAllWasSeen() {
        System.out.println(seen);
        String[] due = {"type, true", "type, false", "convert", "convert, " + Checks.NO_TERM,
            "convert, " + Checks.TOO_DEEP, "pass", "pass, " + Checks.NO_PROGRAM, "simplify",
            "simplify, " + Checks.NO_PROGRAM, "run", "run, " + Checks.NO_PROGRAM, "count",
            "count, " + Checks.NOTHING_SUCH, "written", "written, " + Checks.NOTHING_SUCH, "ran",
            "ran, " + Checks.NOTHING_SUCH};
        for (String each : due) {
            Checks.due("answers of " + each, true, () -> seen.getOrDefault(each, 0) > 100);
        }
    }
}
