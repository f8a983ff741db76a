import java.util.ArrayList;
import java.util.Arrays;
import java.util.List;
import java.util.Random;

/** Codes made with a fixed seed: most are terms, some are cut short or have an int that is another one. */
final class RandomTerms {
    private final Random random;
    private final List<Integer> made = new ArrayList<>();

    RandomTerms(long seed) {
        random = new Random(seed);
    }

    int[] newCode() {
        int[] code = newTerm();
        if (random.nextInt(10) == 0 && code.length > 0) {
            code[random.nextInt(code.length)] = random.nextInt(9) - 1;
        }
        if (random.nextInt(60) == 0) {
            code = Arrays.copyOf(code, random.nextInt(code.length + 1));
        }
        return code;
    }

    private int[] newTerm() {
        do {
            made.clear();
            switch (random.nextInt(10)) {
                case 0:
                    putTwice();
                    put(2 + random.nextInt(45), new int[] {0});
                    break;
                case 1:
                    putManyTimes();
                    break;
                case 2:
                    put(random.nextInt(40), putNest(random.nextInt(11), new int[0]));
                    break;
                case 3:
                    putDeepCall();
                    break;
                default:
                    put(2 + random.nextInt(59), new int[0]);
            }
        } while (made.size() > 60);
        return made.stream().mapToInt(n -> n).toArray();
    }

    /** LET 0 be the function that does a function twice. */
    private void putTwice() {
        made.addAll(List.of(4, 0, 2, 1, 2, 2, 3, 1, 1));
        made.addAll(List.of(3, 1, 1, 1, 2));
    }

    /** Runs that work out hundreds of bindings. */
    private void putManyTimes() {
        putTwice();
        if (random.nextBoolean()) {
            made.addAll(List.of(5, random.nextInt(5), 0, 1));
        }
        made.add(3);
        int times = 5 + random.nextInt(4);
        for (int k = 0; k < times; k++) {
            made.addAll(List.of(3, 1, 0));
        }
        made.addAll(List.of(2, 1));
        put(4 + random.nextInt(8), new int[] {0, 1});
        putLeaf(new int[] {0});
    }

    /** Functions inside one another: what is in sight in the innermost. */
    private int[] putNest(int functions, int[] inSight) {
        int[] all = inSight;
        for (int k = 0; k < functions; k++) {
            int x = random.nextInt(10);
            made.addAll(List.of(2, x));
            all = and(all, x);
        }
        return all;
    }

    /** A function in deep rows, used in deep rows: rows may come to lie deeper than 8. */
    private void putDeepCall() {
        made.addAll(List.of(4, 9));
        put(random.nextInt(20), putNest(1 + random.nextInt(8), new int[0]));
        int[] inSight = putNest(random.nextInt(8), new int[] {9});
        made.addAll(List.of(3, 1, 9));
        put(random.nextInt(20), inSight);
    }

    /** A term of about so many ints, with the variables that are in sight. */
    private void put(int budget, int[] inSight) {
        if (budget < 5 || random.nextInt(20) == 0) {
            putLeaf(inSight);
            return;
        }
        int x = random.nextInt(10);
        switch (random.nextInt(14)) {
            case 0, 1:
                made.addAll(List.of(2, x));
                put(budget - 2, and(inSight, x));
                break;
            case 2, 3, 4: {
                made.add(3);
                int half = halfOf(budget - 1);
                if (random.nextInt(3) > 0) {
                    putLeaf(inSight);
                    half = 2;
                } else {
                    put(half, inSight);
                }
                put(budget - 1 - half, inSight);
                break;
            }
            case 5, 6, 7, 8: {
                made.addAll(List.of(4, x));
                int half = halfOf(budget - 2);
                if (random.nextInt(4) > 0) {
                    int y = random.nextInt(10);
                    made.addAll(List.of(2, y));
                    put(half - 2, and(inSight, y));
                } else {
                    put(half, inSight);
                }
                put(budget - 2 - half, and(inSight, x));
                break;
            }
            case 9, 10: {
                made.addAll(List.of(5, random.nextInt(5)));
                int half = halfOf(budget - 2);
                put(half, inSight);
                put(budget - 2 - half, inSight);
                break;
            }
            case 11, 12: {
                made.add(6);
                int third = (budget - 1) / 3;
                put(Math.min(third, 2 + random.nextInt(8)), inSight);
                put(third, inSight);
                put(third, inSight);
                break;
            }
            default:
                made.add(3);
                made.addAll(List.of(2, x));
                int half = halfOf(budget - 3);
                put(half, and(inSight, x));
                put(budget - 3 - half, inSight);
        }
    }

    private int halfOf(int budget) {
        return 1 + random.nextInt(Math.max(1, budget - 1));
    }

    private void putLeaf(int[] inSight) {
        if (inSight.length > 0 && random.nextInt(4) > 0) {
            int back = Math.min(random.nextInt(inSight.length), random.nextInt(inSight.length));
            made.addAll(List.of(1, inSight[inSight.length - 1 - back]));
        } else {
            int[] numbers = {0, 0, 1, 2, -1, 7, Integer.MIN_VALUE, Integer.MAX_VALUE, random.nextInt()};
            made.addAll(List.of(0, numbers[random.nextInt(numbers.length)]));
        }
    }

    private static int[] and(int[] inSight, int x) {
        int[] more = Arrays.copyOf(inSight, inSight.length + 1);
        more[inSight.length] = x;
        return more;
    }
}
