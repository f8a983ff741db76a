import java.util.ArrayList;
import java.util.List;
import java.util.Random;
import java.util.stream.Collectors;

/** Compares the class with Model on many terms, made with a fixed seed, and on codes that are no terms. */
public final class RandomTermsTest {
    private static final int TERMS = 30000;

    private final Random random = new Random(20261115);
    private final List<Integer> made = new ArrayList<>();
    private final int[] endings = new int[6];
    private final int[] steps = new int[4];
    private int refused = 0;
    private int tooDeep = 0;
    private int deepestAfter = 0;

    public static void main(String[] args) {
        RandomTermsTest test = new RandomTermsTest();
        for (int k = 0; k < TERMS; k++) {
            test.compare(test.newCode());
        }
        test.checkThatAllWasSeen();
        Checks.end();
    }

    private int[] newCode() {
        int[] code = newTerm();
        if (random.nextInt(10) == 0 && code.length > 0) {
            code[random.nextInt(code.length)] = random.nextInt(9) - 1;
        }
        if (random.nextInt(60) == 0) {
            code = java.util.Arrays.copyOf(code, random.nextInt(code.length + 1));
        }
        return code;
    }

    private int[] newTerm() {
        do {
            made.clear();
            switch (random.nextInt(10)) {
                case 0:
                    putTwice();
                    put(2 + random.nextInt(45), new int[] {0});
                    break;
                case 1:
                    putManyTimes();
                    break;
                case 2:
                    put(random.nextInt(40), putNest(random.nextInt(11), new int[0]));
                    break;
                case 3:
                    putDeepCall();
                    break;
                default:
                    put(2 + random.nextInt(59), new int[0]);
            }
        } while (made.size() > 60);
        return made.stream().mapToInt(n -> n).toArray();
    }

    /** LET 0 be the function that does a function twice. */
    private void putTwice() {
        made.addAll(List.of(4, 0, 2, 1, 2, 2, 3, 1, 1));
        made.addAll(List.of(3, 1, 1, 1, 2));
    }

    /** Runs that work out hundreds of bindings. */
    private void putManyTimes() {
        putTwice();
        if (random.nextBoolean()) {
            made.addAll(List.of(5, random.nextInt(5), 0, 1));
        }
        made.add(3);
        int times = 5 + random.nextInt(4);
        for (int k = 0; k < times; k++) {
            made.addAll(List.of(3, 1, 0));
        }
        made.addAll(List.of(2, 1));
        put(4 + random.nextInt(8), new int[] {0, 1});
        putLeaf(new int[] {0});
    }

    /** Functions inside one another: what is in sight in the innermost. */
    private int[] putNest(int functions, int[] inSight) {
        int[] all = inSight;
        for (int k = 0; k < functions; k++) {
            int x = random.nextInt(10);
            made.addAll(List.of(2, x));
            all = and(all, x);
        }
        return all;
    }

    /** A function in deep rows, used in deep rows: rows may come to lie deeper than 8. */
    private void putDeepCall() {
        made.addAll(List.of(4, 9));
        put(random.nextInt(20), putNest(1 + random.nextInt(8), new int[0]));
        int[] inSight = putNest(random.nextInt(8), new int[] {9});
        made.addAll(List.of(3, 1, 9));
        put(random.nextInt(20), inSight);
    }

    /** A term of about so many ints, with the variables that are in sight. */
    private void put(int budget, int[] inSight) {
        if (budget < 5 || random.nextInt(20) == 0) {
            putLeaf(inSight);
            return;
        }
        int x = random.nextInt(10);
        switch (random.nextInt(14)) {
            case 0, 1:
                made.addAll(List.of(2, x));
                put(budget - 2, and(inSight, x));
                break;
            case 2, 3, 4: {
                made.add(3);
                int half = halfOf(budget - 1);
                if (random.nextInt(3) > 0) {
                    putLeaf(inSight);
                    half = 2;
                } else {
                    put(half, inSight);
                }
                put(budget - 1 - half, inSight);
                break;
            }
            case 5, 6, 7, 8: {
                made.addAll(List.of(4, x));
                int half = halfOf(budget - 2);
                if (random.nextInt(4) > 0) {
                    int y = random.nextInt(10);
                    made.addAll(List.of(2, y));
                    put(half - 2, and(inSight, y));
                } else {
                    put(half, inSight);
                }
                put(budget - 2 - half, and(inSight, x));
                break;
            }
            case 9, 10: {
                made.addAll(List.of(5, random.nextInt(5)));
                int half = halfOf(budget - 2);
                put(half, inSight);
                put(budget - 2 - half, inSight);
                break;
            }
            case 11, 12: {
                made.add(6);
                int third = (budget - 1) / 3;
                put(Math.min(third, 2 + random.nextInt(8)), inSight);
                put(third, inSight);
                put(third, inSight);
                break;
            }
            default:
                made.add(3);
                made.addAll(List.of(2, x));
                int half = halfOf(budget - 3);
                put(half, and(inSight, x));
                put(budget - 3 - half, inSight);
        }
    }

    private int halfOf(int budget) {
        return 1 + random.nextInt(Math.max(1, budget - 1));
    }

    private void putLeaf(int[] inSight) {
        if (inSight.length > 0 && random.nextInt(4) > 0) {
            int back = Math.min(random.nextInt(inSight.length), random.nextInt(inSight.length));
            made.addAll(List.of(1, inSight[inSight.length - 1 - back]));
        } else {
            int[] numbers = {0, 0, 1, 2, -1, 7, Integer.MIN_VALUE, Integer.MAX_VALUE, random.nextInt()};
            made.addAll(List.of(0, numbers[random.nextInt(numbers.length)]));
        }
    }

    private static int[] and(int[] inSight, int x) {
        int[] more = java.util.Arrays.copyOf(inSight, inSight.length + 1);
        more[inSight.length] = x;
        return more;
    }

    private void compare(int[] code) {
        String want = "";
        try {
            want += new Model(code).bindings();
        } catch (Model.NoTerm e) {
            want = Checks.NO_TERM;
            refused++;
        } catch (Model.TooDeep e) {
            want = Checks.TOO_DEEP;
            tooDeep++;
        }
        String due = want;
        String text = java.util.Arrays.toString(code);
        Checks.due("convert() of " + text, due, () -> "" + Checks.typed(code).convert());
        if (!due.startsWith("Ill") && !due.startsWith("Uns")) {
            compareStages(code, text);
        }
    }

    /** A new object for each stage, as one object may be asked 512 times alone. */
    private void compareStages(int[] code, String text) {
        int ending = -1;
        Object value = null;
        for (int stage = 0; stage <= 3; stage++) {
            Model model = new Model(code);
            TermSimplifier object = Checks.converted(code);
            String call = "stage " + stage + " of " + text;
            for (int k = 0; k < Math.min(stage, 2); k++) {
                Checks.due(call + ": pass()", model.pass(), object::pass);
            }
            if (stage == 3) {
                Checks.due(call + ": simplify()", simplify(model), object::simplify);
            }
            compareAll(call, model, object);
            int now = model.run();
            if (stage > 0 && ending < 4) {
                boolean same = now == ending && (value.equals(model.value) || value instanceof Model.Closure
                        && model.value instanceof Model.Closure);
                Checks.due(call + ": what it comes to stays", true, () -> same);
            }
            ending = now;
            value = model.value;
            endings[now]++;
            for (int k = 0; k < 4; k++) {
                steps[k] += model.steps[k];
            }
            deepestAfter = Math.max(deepestAfter, depthOf(model.program));
        }
    }

    private static int simplify(Model model) {
        int passes = 1;
        while (model.pass() > 0) {
            passes++;
        }
        return passes;
    }

    private static void compareAll(String call, Model model, TermSimplifier object) {
        String counts = model.steps[0] + " " + model.steps[1] + " " + model.steps[2] + " " + model.steps[3] + " "
                + model.bindings() + " " + model.names;
        Checks.due(call + ": counts", counts, () -> Checks.countsOf(object));
        String numbers = model.written().stream().map(n -> "" + n).collect(Collectors.joining(" "));
        Checks.due(call + ": written", numbers, () -> Checks.writing(object));
        int ending = model.run();
        boolean function = model.value instanceof Model.Closure;
        String run = ending + ": " + (function ? 0 : model.value) + " " + (function ? 1 : 0) + " " + model.begun + " "
                + model.deepest;
        Checks.due(call + ": run", run, () -> Checks.runOf(object));
    }

    private static int depthOf(Model.Block block) {
        int deepest = 0;
        for (Model.Item item : block.items) {
            for (Model.Block inner : item.blocks) {
                deepest = Math.max(deepest, 1 + depthOf(inner));
            }
        }
        return deepest;
    }

    /** Terms that never come to an error, or to a step, would show nothing of it. */
    private void checkThatAllWasSeen() {
        System.out.println("refused " + refused + ", too deep " + tooDeep + ", endings "
                + java.util.Arrays.toString(endings) + ", steps " + java.util.Arrays.toString(steps)
                + ", rows lay " + deepestAfter + " deep");
        for (int how = 0; how < 6; how++) {
            int seen = endings[how];
            Checks.due("runs that ended with " + how, true, () -> seen > 0);
        }
        for (int step = 0; step < 4; step++) {
            int seen = steps[step];
            Checks.due("steps of kind " + step, true, () -> seen > 0);
        }
        Checks.due("codes that are no terms", true, () -> refused > 0);
        Checks.due("terms that are too deep", true, () -> tooDeep > 0);
        Checks.due("rows that came to lie deeper than 8", true, () -> deepestAfter > 8);
    }
}
