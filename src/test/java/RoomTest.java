import java.lang.management.ManagementFactory;

/**
 * What each call makes when it is made 512 times on one object, in bytes. An object or array takes at least 16
 * bytes and an element at least one, so that what stays below the bound stays far below the room of a run.
 */
public final class RoomTest {
    private static final int CALLS = 512;
    private static final long BOUND = 2000000;

    private interface Use {
        void call(TermSimplifier t);
    }

    public static void main(String[] args) {
        int[] many = Checks.code(Checks.of(4, 0, 2, 0, 2, 1, 3, 1, 0, 3, 1, 0, 1, 1, 3), Checks.times(8, 3, 1, 0),
                Checks.of(2, 1, 5, 0, 1, 1, 0, 1, 0, 0));
        due("run", many, TermSimplifier::run);
        due("written", many, t -> t.written(100));
        due("pass", many, TermSimplifier::pass);
        due("simplify", many, TermSimplifier::simplify);
        due("count", many, t -> t.count(4));
        due("convert", Checks.of(), t -> {
            t.type(0);
            t.type(0);
            t.convert();
        });
        due("convert of functions", Checks.of(), t -> {
            for (int k = 0; k < 8; k++) {
                t.type(2);
                t.type(k);
            }
            t.type(1);
            t.type(0);
            t.convert();
        });
        Checks.end();
    }

    private static void due(String what, int[] code, Use use) {
        new TermSimplifier();
        long before = allocated();
        TermSimplifier t = new TermSimplifier();
        for (int n : code) {
            t.type(n);
        }
        if (code.length > 0) {
            t.convert();
        }
        for (int k = 0; k < CALLS; k++) {
            use.call(t);
        }
        long made = allocated() - before;
        System.out.println(what + ": " + made + " bytes");
        Checks.due("room for " + what, true, () -> made < BOUND);
    }

    private static long allocated() {
        return ((com.sun.management.ThreadMXBean) ManagementFactory.getThreadMXBean()).getCurrentThreadAllocatedBytes();
    }
}
