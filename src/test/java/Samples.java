/** Terms that several tests use; what they come to is worked out by hand, but for lateAndDeep. */
final class Samples {
    static final int[] NONE = {};
    static final int[] ZERO = {0, 0};
    static final int[] ONE = {0, 1};
    /** LET 0 be the function that is not used at all, in 7. */
    static final int[] UNUSED = {4, 0, 2, 1, 1, 1, 0, 7};
    /** 1 + 2. */
    static final int[] SUM = {5, 0, 0, 1, 0, 2};
    /** 1 / 0, which no pass can work out: a name that stays. */
    static final int[] BY_ZERO = {5, 3, 0, 1, 0, 0};
    /** FUN x: x + 1, applied to 41. */
    static final int[] CALL = {3, 2, 0, 5, 0, 1, 0, 0, 1, 0, 41};
    /** FUN f: FUN x: f (f x). */
    static final int[] TWICE = {2, 0, 2, 1, 3, 1, 0, 3, 1, 0, 1, 1};
    static final int[] SUCCESSOR = {2, 1, 5, 0, 1, 1, 0, 1};

    private Samples() {
    }

    /** So many functions inside one another, with 0 in the innermost. */
    static int[] functions(int n) {
        return Checks.code(Checks.times(n, 2, 0), ZERO);
    }

    /** So many IFs, each in the first row of the one around it. */
    static int[] firstRows(int n) {
        return Checks.code(Checks.times(n, 6, 0, 1), ZERO, Checks.times(n, 0, 2));
    }

    /** So many IFs, each in the second row of the one around it. */
    static int[] secondRows(int n) {
        return Checks.code(Checks.times(n, 6, 0, 1, 0, 2), ZERO);
    }

    /**
     * LET 0 be FUN s: FUN n: IF n ((s s) (n - 1)) base, in (0 0) n. Its run begins 5 bindings, and 5 more for each
     * of n's steps, and what the base needs; rows lie 2 * (n + 1) deep, the base's own not counted.
     */
    static int[] countDown(int n, int... base) {
        int[] function = {2, 1, 2, 2, 6, 1, 2, 3, 3, 1, 1, 1, 1, 5, 1, 1, 2, 0, 1};
        return Checks.code(Checks.of(4, 0), function, base, Checks.of(3, 3, 1, 0, 1, 0, 0, n));
    }

    /** Adds 1 to 0 128 times, by 399 bindings with rows 8 deep; before and behind it what stands around it. */
    static int[] manyTimes(int[] before, int[] behind) {
        return Checks.code(Checks.of(4, 0), TWICE, before, Checks.of(3), Checks.times(7, 3, 1, 0), SUCCESSOR, ZERO, behind);
    }

    /**
     * Counts n down to 0 in rows 12 deep, and opens one more row then, by what stands for the last. With the number
     * 90 that would be binding 398 of the run, with 91 it would be 401; the call of a function for n adds 2. These
     * counts were looked for with the class itself, its limit of bindings raised, and Model answers the same.
     */
    static int[] lateAndDeep(int[] n, int... last) {
        int[] step = Checks.code(Checks.of(2, 1, 6, 1, 1, 5, 1, 1, 1, 0, 1), last);
        int[] fourTimes = {4, 0, 3, 1, 0, 1, 0};
        return Checks.code(Checks.of(4, 0), TWICE, fourTimes, Checks.of(3), Checks.times(5, 3, 1, 0), step, n);
    }
}
