import java.util.ArrayList;
import java.util.HashMap;
import java.util.HashSet;
import java.util.List;
import java.util.Map;
import java.util.Set;

/**
 * The document done again, slowly and in another way, to be compared with the class on many terms:
 * terms are trees, free variables are looked for on the tree, a pass goes by which binding comes next
 * and not by places, occurrences are counted in what is written, runs keep maps of all names.
 */
final class Model {
    static final class NoTerm extends RuntimeException {
        private static final long serialVersionUID = 1;
    }

    static final class TooDeep extends RuntimeException {
        private static final long serialVersionUID = 1;
    }

    private static final class Ended extends RuntimeException {
        private static final long serialVersionUID = 1;
        final int how;

        Ended(int how) {
            this.how = how;
        }
    }

    record Term(int kind, int n, List<Term> parts) {
    }

    record Atom(boolean name, int n) {
    }

    record Closure(Item fun, Map<Integer, Object> names) {
    }

    static final class Item {
        int name;
        int kind;
        int n;
        final List<Atom> atoms = new ArrayList<>();
        final List<Block> blocks = new ArrayList<>();
    }

    static final class Block {
        final List<Item> items = new ArrayList<>();
        Atom result;
    }

    private final int[] code;
    private int at = 0;
    final Block program = new Block();
    int names = 0;
    final int[] steps = new int[4];
    int begun;
    int deepest;
    Object value;

    Model(int[] code) {
        this.code = code;
        Term term = parse();
        if (at != code.length) {
            throw new NoTerm();
        }
        lookForFree(term, new HashSet<>());
        if (rowDepth(term) > 8) {
            throw new TooDeep();
        }
        program.result = convert(term, program, new HashMap<>());
    }

    private int next() {
        if (at >= code.length) {
            throw new NoTerm();
        }
        return code[at++];
    }

    private int nextBelow(int bound) {
        int n = next();
        if (n < 0 || n >= bound) {
            throw new NoTerm();
        }
        return n;
    }

    private Term parse() {
        int kind = nextBelow(7);
        int n = switch (kind) {
            case 0 -> next();
            case 1, 2, 4 -> nextBelow(10);
            case 5 -> nextBelow(5);
            default -> 0;
        };
        int parts = switch (kind) {
            case 0, 1 -> 0;
            case 2 -> 1;
            case 6 -> 3;
            default -> 2;
        };
        List<Term> all = new ArrayList<>();
        for (int k = 0; k < parts; k++) {
            all.add(parse());
        }
        return new Term(kind, n, all);
    }

    private static void lookForFree(Term term, Set<Integer> bound) {
        if (term.kind == 1 && !bound.contains(term.n)) {
            throw new NoTerm();
        }
        for (int k = 0; k < term.parts.size(); k++) {
            Set<Integer> inside = new HashSet<>(bound);
            if (term.kind == 2 || term.kind == 4 && k == 1) {
                inside.add(term.n);
            }
            lookForFree(term.parts.get(k), inside);
        }
    }

    private static int rowDepth(Term term) {
        int deepest = 0;
        for (int k = 0; k < term.parts.size(); k++) {
            int own = term.kind == 2 || term.kind == 6 && k > 0 ? 1 : 0;
            deepest = Math.max(deepest, own + rowDepth(term.parts.get(k)));
        }
        return deepest;
    }

    private Atom convert(Term term, Block block, Map<Integer, Atom> meanings) {
        Item item = new Item();
        item.kind = term.kind;
        switch (term.kind) {
            case 0:
                return new Atom(false, term.n);
            case 1:
                return meanings.get(term.n);
            case 4: {
                Atom meaning = convert(term.parts.get(0), block, meanings);
                return convert(term.parts.get(1), block, with(meanings, term.n, meaning));
            }
            case 2: {
                item.n = names++;
                Map<Integer, Atom> inside = with(meanings, term.n, new Atom(true, item.n));
                item.blocks.add(blockOf(term.parts.get(0), inside));
                break;
            }
            case 6:
                item.atoms.add(convert(term.parts.get(0), block, meanings));
                item.blocks.add(blockOf(term.parts.get(1), meanings));
                item.blocks.add(blockOf(term.parts.get(2), meanings));
                break;
            default:
                item.n = term.n;
                item.atoms.add(convert(term.parts.get(0), block, meanings));
                item.atoms.add(convert(term.parts.get(1), block, meanings));
        }
        item.name = names++;
        block.items.add(item);
        return new Atom(true, item.name);
    }

    private static Map<Integer, Atom> with(Map<Integer, Atom> meanings, int x, Atom atom) {
        Map<Integer, Atom> more = new HashMap<>(meanings);
        more.put(x, atom);
        return more;
    }

    private Block blockOf(Term term, Map<Integer, Atom> meanings) {
        Block block = new Block();
        block.result = convert(term, block, meanings);
        return block;
    }

    List<Integer> written() {
        List<Integer> out = new ArrayList<>();
        write(program, out, null, null);
        return out;
    }

    int bindings() {
        Map<Item, Block> homes = new HashMap<>();
        write(program, new ArrayList<>(), new ArrayList<>(), homes);
        return homes.size();
    }

    private static void write(Block block, List<Integer> out, List<Integer> occurring, Map<Item, Block> homes) {
        for (Item item : block.items) {
            if (homes != null) {
                homes.put(item, block);
            }
            out.add(8);
            out.add(item.name);
            out.add(item.kind);
            if (item.kind == 2 || item.kind == 5) {
                out.add(item.n);
            }
            item.atoms.forEach(atom -> writeAtom(atom, out, occurring));
            item.blocks.forEach(inner -> write(inner, out, occurring, homes));
        }
        out.add(9);
        writeAtom(block.result, out, occurring);
    }

    private static void writeAtom(Atom atom, List<Integer> out, List<Integer> occurring) {
        out.add(atom.name ? 1 : 0);
        out.add(atom.n);
        if (atom.name && occurring != null) {
            occurring.add(atom.n);
        }
    }

    private int occurrences(int name) {
        List<Integer> occurring = new ArrayList<>();
        write(program, new ArrayList<>(), occurring, null);
        return (int) occurring.stream().filter(n -> n == name).count();
    }

    private static void stand(Block block, int name, Atom atom) {
        Atom old = new Atom(true, name);
        for (Item item : block.items) {
            item.atoms.replaceAll(a -> a.equals(old) ? atom : a);
            item.blocks.forEach(inner -> stand(inner, name, atom));
        }
        block.result = block.result.equals(old) ? atom : block.result;
    }

    int pass() {
        int before = steps[0] + steps[1] + steps[2] + steps[3];
        pass(program);
        return steps[0] + steps[1] + steps[2] + steps[3] - before;
    }

    int simplify() {
        int passes = 1;
        while (pass() > 0) {
            passes++;
        }
        return passes;
    }

    private void pass(Block block) {
        Item item = block.items.isEmpty() ? null : block.items.get(0);
        while (item != null) {
            Item behind = behind(block, item);
            Block inPlace = step(block, item);
            if (inPlace == null) {
                item.blocks.forEach(this::pass);
                item = behind(block, item);
            } else {
                item = inPlace.items.isEmpty() ? behind : inPlace.items.get(0);
            }
        }
    }

    private static Item behind(Block block, Item item) {
        int place = block.items.indexOf(item) + 1;
        return place < block.items.size() ? block.items.get(place) : null;
    }

    /** What comes in the item's place (perhaps nothing), or null when there is no step to do. */
    private Block step(Block block, Item item) {
        Block inPlace = new Block();
        if (item.kind == 5) {
            Atom a = item.atoms.get(0);
            Atom b = item.atoms.get(1);
            if (a.name || b.name || item.n == 3 && b.n == 0) {
                return null;
            }
            inPlace.result = new Atom(false, work(item.n, a.n, b.n));
            steps[0]++;
        } else if (item.kind == 6) {
            Atom a = item.atoms.get(0);
            if (a.name) {
                return null;
            }
            inPlace = item.blocks.get(a.n != 0 ? 0 : 1);
            steps[1]++;
        } else if (item.kind == 3) {
            Atom f = item.atoms.get(0);
            Map<Item, Block> homes = new HashMap<>();
            write(program, new ArrayList<>(), null, homes);
            Item fun = homes.keySet().stream().filter(i -> f.name && i.name == f.n).findFirst().orElse(null);
            if (fun == null || fun.kind != 2 || occurrences(f.n) != 1) {
                return null;
            }
            inPlace = fun.blocks.get(0);
            stand(inPlace, fun.n, item.atoms.get(1));
            homes.get(fun).items.remove(fun);
            steps[2]++;
        } else {
            if (occurrences(item.name) != 0) {
                return null;
            }
            steps[3]++;
        }
        int place = block.items.indexOf(item);
        block.items.remove(place);
        block.items.addAll(place, inPlace.items);
        if (inPlace.result != null) {
            stand(program, item.name, inPlace.result);
        }
        return inPlace;
    }

    private static int work(int o, int a, int b) {
        return switch (o) {
            case 0 -> (int) ((long) a + b);
            case 1 -> (int) ((long) a - b);
            case 2 -> (int) ((long) a * b);
            case 3 -> (int) ((long) a / b);
            default -> a < b ? 1 : 0;
        };
    }

    int run() {
        begun = 0;
        deepest = 0;
        value = 0;
        try {
            value = run(program, new HashMap<>(), 0);
            return 0;
        } catch (Ended e) {
            return e.how;
        }
    }

    private Object run(Block block, Map<Integer, Object> around, int rows) {
        if (rows == 13) {
            throw new Ended(4);
        }
        deepest = Math.max(deepest, rows);
        Map<Integer, Object> values = new HashMap<>(around);
        for (Item item : block.items) {
            if (begun == 400) {
                throw new Ended(5);
            }
            begun++;
            values.put(item.name, workOut(item, values, rows));
        }
        return valueOf(block.result, values);
    }

    private Object workOut(Item item, Map<Integer, Object> values, int rows) {
        if (item.kind == 2) {
            return new Closure(item, new HashMap<>(values));
        }
        Object a = valueOf(item.atoms.get(0), values);
        if (item.kind == 6) {
            if (a instanceof Closure) {
                throw new Ended(2);
            }
            return run(item.blocks.get(a.equals(0) ? 1 : 0), values, rows + 1);
        }
        Object b = valueOf(item.atoms.get(1), values);
        if (item.kind == 3) {
            if (!(a instanceof Closure f)) {
                throw new Ended(1);
            }
            Map<Integer, Object> inside = new HashMap<>(f.names);
            inside.put(f.fun.n, b);
            return run(f.fun.blocks.get(0), inside, rows + 1);
        }
        if (!(a instanceof Integer x) || !(b instanceof Integer y)) {
            throw new Ended(2);
        }
        if (item.n == 3 && y == 0) {
            throw new Ended(3);
        }
        return work(item.n, x, y);
    }

    private static Object valueOf(Atom atom, Map<Integer, Object> values) {
        if (!atom.name) {
            return atom.n;
        }
        if (!values.containsKey(atom.n)) {
            throw new IllegalStateException("name " + atom.n + " cannot be seen");
        }
        return values.get(atom.n);
    }
}
