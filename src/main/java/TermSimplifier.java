import java.util.ArrayList;
import java.util.NoSuchElementException;

/** Terms of functions and numbers: converted into a program of named steps, simplified and run. */
public final class TermSimplifier {
    private static final int CODE_LIMIT = 60;
    private static final int VARIABLES = 10;
    private static final int OPERATIONS = 5;
    private static final int CONVERTED_ROW_LIMIT = 8;

    // The kinds of terms; those of bindings bear the same numbers, in the code and in what is written.
    private static final int NUMBER = 0;
    private static final int VARIABLE = 1;
    private static final int FUN = 2;
    private static final int APPLY = 3;
    private static final int LET = 4;
    private static final int OP = 5;
    private static final int IF = 6;

    // By kind: how many ints stand before the parts of a term, and how many parts it has.
    private static final int[] HEAD_LENGTHS = {2, 2, 2, 1, 2, 2, 1};
    private static final int[] PARTS = {0, 0, 1, 2, 2, 2, 3};

    private static final int PLUS = 0;
    private static final int MINUS = 1;
    private static final int TIMES = 2;
    private static final int DIVIDED = 3;

    private static final int FOLD = 0;
    private static final int CHOOSE = 1;
    private static final int INLINE = 2;
    private static final int DROP = 3;
    private static final int STEPS = 4;

    // 60 ints hold at most 29 functions, so neither terms nor rows can lie as deep in one another as this;
    // rows may lie deeper than CONVERTED_ROW_LIMIT once a function has been put where it is used.
    private static final int NESTING_LIMIT = 40;

    // A pass has at most some 60 turns in a row, and each pass but the last takes a binding away.
    private static final int TURN_LIMIT = 100000;

    private final Converter converter;
    private final Passes passes;
    private final Script script;
    private final Machine machine;
    private Program program;

    public TermSimplifier() {
        converter = new Converter();
        passes = new Passes();
        script = new Script();
        machine = new Machine();
        program = null;
    }

    public boolean type(int n) {
        return converter.addToCode(n);
    }

    public int convert() throws IllegalArgumentException, UnsupportedOperationException {
        Program made = converter.takeProgram();
        if (made == null) {
            throw new IllegalArgumentException("the code is no term");
        }
        if (converter.deepestRow > CONVERTED_ROW_LIMIT) {
            throw new UnsupportedOperationException("the rows lie too deep");
        }
        program = made;
        return made.row.allBindings();
    }

    public int pass() throws IllegalStateException {
        if (program == null) {
            throw new IllegalStateException("no program");
        }
        return passes.makeOne(program);
    }

    public int simplify() throws IllegalStateException {
        if (program == null) {
            throw new IllegalStateException("no program");
        }
        int made = 1;
        while (made < TURN_LIMIT && passes.makeOne(program) > 0) {
            made++;
        }
        return made;
    }

    public int count(int what) throws NoSuchElementException {
        if (what < 0 || what > STEPS + 1) {
            throw new NoSuchElementException("no such count");
        }
        if (program == null) {
            return 0;
        }
        if (what < STEPS) {
            return program.steps[what];
        }
        return what == STEPS ? program.row.allBindings() : program.names;
    }

    public int written(int k) throws NoSuchElementException {
        if (program != null) {
            script.writeProgram(program);
        }
        if (program == null || k < 0 || k >= script.length) {
            throw new NoSuchElementException("no such number");
        }
        return script.numbers[k];
    }

    public int run() throws IllegalStateException {
        if (program == null) {
            throw new IllegalStateException("no program");
        }
        return machine.start(program);
    }

    public int ran(int what) throws NoSuchElementException {
        switch (what) {
            case 0:
                return machine.number;
            case 1:
                return machine.endedInFunction ? 1 : 0;
            case 2:
                return machine.begun;
            case 3:
                return machine.deepest;
            default:
                throw new NoSuchElementException("nothing such of a run");
        }
    }

    private static boolean dividesByZero(int operation, int b) {
        return operation == DIVIDED && b == 0;
    }

    private static int calculated(int operation, int a, int b) {
        switch (operation) {
            case PLUS:
                return a + b;
            case MINUS:
                return a - b;
            case TIMES:
                return a * b;
            case DIVIDED:
                return b == 0 ? 0 : a / b;
            default:
                return a < b ? 1 : 0;
        }
    }

    /** A number, or a name. It never changes, so that many places may share it. */
    private static final class Atom {
        final boolean isName;
        final int value;

        Atom(boolean isName, int value) {
            this.isName = isName;
            this.value = value;
        }

        boolean isTheName(int name) {
            return isName && value == name;
        }
    }

    /** All kinds keep their atoms and rows in arrays, so that whoever looks for a name need not ask for the kind. */
    private static final class Binding {
        final int name;
        final int kind;
        /** The parameter of a FUN, the operation of an OP; nothing for the others. */
        final int detail;
        final Atom[] atoms;
        final Row[] rows;

        Binding(int name, int kind, int detail, Atom[] atoms, Row[] rows) {
            this.name = name;
            this.kind = kind;
            this.detail = detail;
            this.atoms = atoms;
            this.rows = rows;
        }
    }

    private static final class Row {
        final ArrayList<Binding> bindings;
        Atom result;

        Row() {
            bindings = new ArrayList<>();
            result = new Atom(false, 0);
        }

        /** How many bindings there are in this row and in all rows inside it. */
        int allBindings() {
            return bindingsIn(this, 0);
        }

        private static int bindingsIn(Row row, int depth) {
            int all = row.bindings.size();
            for (int k = 0; k < row.bindings.size() && depth < NESTING_LIMIT; k++) {
                for (Row inner : row.bindings.get(k).rows) {
                    all += bindingsIn(inner, depth + 1);
                }
            }
            return all;
        }

        int occurrencesOf(int name) {
            return occurrencesIn(this, name, 0);
        }

        private static int occurrencesIn(Row row, int name, int depth) {
            int found = row.result.isTheName(name) ? 1 : 0;
            for (int k = 0; k < row.bindings.size() && depth < NESTING_LIMIT; k++) {
                Binding binding = row.bindings.get(k);
                for (Atom atom : binding.atoms) {
                    found += atom.isTheName(name) ? 1 : 0;
                }
                for (Row inner : binding.rows) {
                    found += occurrencesIn(inner, name, depth + 1);
                }
            }
            return found;
        }

        /** From now on the name stands for the atom. */
        void replace(int name, Atom by) {
            replaceIn(this, name, by, 0);
        }

        private static void replaceIn(Row row, int name, Atom by, int depth) {
            if (row.result.isTheName(name)) {
                row.result = by;
            }
            for (int k = 0; k < row.bindings.size() && depth < NESTING_LIMIT; k++) {
                Binding binding = row.bindings.get(k);
                for (int i = 0; i < binding.atoms.length; i++) {
                    if (binding.atoms[i].isTheName(name)) {
                        binding.atoms[i] = by;
                    }
                }
                for (Row inner : binding.rows) {
                    replaceIn(inner, name, by, depth + 1);
                }
            }
        }

        /** Where the name is bound among this row's own bindings, or -1. */
        int placeOf(int name) {
            for (int k = 0; k < bindings.size(); k++) {
                if (bindings.get(k).name == name) {
                    return k;
                }
            }
            return -1;
        }

        void takeAway(int place) {
            if (place >= 0 && place < bindings.size()) {
                bindings.remove(place);
            }
        }

        /** Puts the bindings of another row in the place of one of this row's. */
        void putInPlace(int place, Row other) {
            takeAway(place);
            for (int k = 0; k < other.bindings.size() && place + k <= bindings.size(); k++) {
                bindings.add(place + k, other.bindings.get(k));
            }
        }
    }

    private static final class Program {
        final Row row;
        final int names;
        final int[] steps;

        Program(Row row, int names) {
            this.row = row;
            this.names = names;
            steps = new int[STEPS];
        }

        int allSteps() {
            return steps[FOLD] + steps[CHOOSE] + steps[INLINE] + steps[DROP];
        }
    }

    /** Keeps the code and makes its program. */
    private static final class Converter {
        private final int[] code;
        private int length;
        private int at;
        private final Atom[] meanings;
        private boolean foundFreeVariable;
        private int names;
        int deepestRow;

        Converter() {
            code = new int[CODE_LIMIT];
            meanings = new Atom[VARIABLES];
        }

        boolean addToCode(int n) {
            if (length >= CODE_LIMIT) {
                return false;
            }
            code[length] = n;
            length++;
            return true;
        }

        /** The program of the code, which is empty then, or null when it is no term. */
        Program takeProgram() {
            int typed = length;
            length = 0;
            if (!isOneTerm(typed)) {
                return null;
            }
            at = 0;
            foundFreeVariable = false;
            names = 0;
            deepestRow = 0;
            Row row = rowOfNextTerm(0, 0);
            return foundFreeVariable ? null : new Program(row, names);
        }

        /** Whether the code is just one term, but for what its variables stand for. */
        private boolean isOneTerm(int typed) {
            int missing = 1;
            int place = 0;
            while (missing > 0 && place < typed) {
                if (!isHead(place, typed)) {
                    return false;
                }
                int kind = code[place];
                missing += PARTS[kind] - 1;
                place += HEAD_LENGTHS[kind];
            }
            return missing == 0 && place == typed;
        }

        private boolean isHead(int place, int typed) {
            int kind = code[place];
            if (kind < NUMBER || kind > IF || place + HEAD_LENGTHS[kind] > typed) {
                return false;
            }
            if (kind == NUMBER || HEAD_LENGTHS[kind] == 1) {
                return true;
            }
            int detail = code[place + 1];
            return detail >= 0 && detail < (kind == OP ? OPERATIONS : VARIABLES);
        }

        private Row rowOfNextTerm(int rowsAround, int depth) {
            deepestRow = Math.max(deepestRow, rowsAround);
            Row row = new Row();
            row.result = atomOfNextTerm(row, rowsAround, depth);
            return row;
        }

        private Atom atomOfNextTerm(Row row, int rowsAround, int depth) {
            if (depth > NESTING_LIMIT) {
                return new Atom(false, 0);
            }
            int kind = nextInt();
            switch (kind) {
                case NUMBER:
                    return new Atom(false, nextInt());
                case VARIABLE:
                    return meaningOf(nextInt());
                case FUN:
                    return atomOfFunction(row, rowsAround, depth + 1);
                case APPLY:
                    return atomOfPair(row, APPLY, rowsAround, depth + 1);
                case LET:
                    return atomOfLet(row, rowsAround, depth + 1);
                case OP:
                    return atomOfPair(row, OP, rowsAround, depth + 1);
                default:
                    return atomOfIf(row, rowsAround, depth + 1);
            }
        }

        private Atom atomOfFunction(Row row, int rowsAround, int depth) {
            int variable = nextInt();
            Atom parameter = newName();
            Atom outerMeaning = meanings[variable];
            meanings[variable] = parameter;
            Row body = rowOfNextTerm(rowsAround + 1, depth);
            meanings[variable] = outerMeaning;
            return bind(row, FUN, parameter.value, new Atom[0], new Row[] {body});
        }

        private Atom atomOfPair(Row row, int kind, int rowsAround, int depth) {
            int detail = kind == OP ? nextInt() : 0;
            Atom a = atomOfNextTerm(row, rowsAround, depth);
            Atom b = atomOfNextTerm(row, rowsAround, depth);
            return bind(row, kind, detail, new Atom[] {a, b}, new Row[0]);
        }

        private Atom atomOfLet(Row row, int rowsAround, int depth) {
            int variable = nextInt();
            Atom meaning = atomOfNextTerm(row, rowsAround, depth);
            Atom outerMeaning = meanings[variable];
            meanings[variable] = meaning;
            Atom atom = atomOfNextTerm(row, rowsAround, depth);
            meanings[variable] = outerMeaning;
            return atom;
        }

        private Atom atomOfIf(Row row, int rowsAround, int depth) {
            Atom condition = atomOfNextTerm(row, rowsAround, depth);
            Row first = rowOfNextTerm(rowsAround + 1, depth);
            Row second = rowOfNextTerm(rowsAround + 1, depth);
            return bind(row, IF, 0, new Atom[] {condition}, new Row[] {first, second});
        }

        private Atom bind(Row row, int kind, int detail, Atom[] atoms, Row[] rows) {
            Atom name = newName();
            row.bindings.add(new Binding(name.value, kind, detail, atoms, rows));
            return name;
        }

        private Atom meaningOf(int variable) {
            Atom meaning = meanings[variable];
            if (meaning == null) {
                foundFreeVariable = true;
                return new Atom(false, 0);
            }
            return meaning;
        }

        private Atom newName() {
            Atom name = new Atom(true, names);
            names++;
            return name;
        }

        private int nextInt() {
            if (at >= code.length) {
                return 0;
            }
            at++;
            return code[at - 1];
        }
    }

    /** Makes passes. It knows the rows around the one it goes over, as a step may take a binding out of them. */
    private static final class Passes {
        private final Row[] path;
        private final int[] places;

        Passes() {
            path = new Row[NESTING_LIMIT];
            places = new int[NESTING_LIMIT];
        }

        /** How many steps the pass did. */
        int makeOne(Program program) {
            int before = program.allSteps();
            goOver(program, program.row, 0);
            return program.allSteps() - before;
        }

        private void goOver(Program program, Row row, int depth) {
            if (depth >= NESTING_LIMIT) {
                return;
            }
            path[depth] = row;
            places[depth] = 0;
            for (int turns = 0; turns < TURN_LIMIT && places[depth] < row.bindings.size(); turns++) {
                Binding binding = row.bindings.get(places[depth]);
                if (!didStep(program, binding, depth)) {
                    for (Row inner : binding.rows) {
                        goOver(program, inner, depth + 1);
                    }
                    places[depth]++;
                }
            }
        }

        private boolean didStep(Program program, Binding binding, int depth) {
            switch (binding.kind) {
                case OP:
                    return didFold(program, binding, depth);
                case IF:
                    return didChoose(program, binding, depth);
                case APPLY:
                    return didInline(program, binding, depth);
                default:
                    return didDrop(program, binding, depth);
            }
        }

        private boolean didFold(Program program, Binding binding, int depth) {
            Atom a = binding.atoms[0];
            Atom b = binding.atoms[1];
            if (a.isName || b.isName || dividesByZero(binding.detail, b.value)) {
                return false;
            }
            Atom number = new Atom(false, calculated(binding.detail, a.value, b.value));
            path[depth].takeAway(places[depth]);
            program.row.replace(binding.name, number);
            program.steps[FOLD]++;
            return true;
        }

        private boolean didChoose(Program program, Binding binding, int depth) {
            Atom condition = binding.atoms[0];
            if (condition.isName) {
                return false;
            }
            Row chosen = binding.rows[condition.value == 0 ? 1 : 0];
            path[depth].putInPlace(places[depth], chosen);
            program.row.replace(binding.name, chosen.result);
            program.steps[CHOOSE]++;
            return true;
        }

        private boolean didInline(Program program, Binding binding, int depth) {
            Atom called = binding.atoms[0];
            int level = called.isName ? levelThatBinds(called.value, depth) : -1;
            if (level < 0) {
                return false;
            }
            int place = path[level].placeOf(called.value);
            Binding function = path[level].bindings.get(place);
            if (function.kind != FUN || program.row.occurrencesOf(called.value) != 1) {
                return false;
            }
            path[level].takeAway(place);
            places[level]--;
            Row body = function.rows[0];
            body.replace(function.detail, binding.atoms[1]);
            path[depth].putInPlace(places[depth], body);
            program.row.replace(binding.name, body.result);
            program.steps[INLINE]++;
            return true;
        }

        /** The level of the row on the path among whose bindings the name is, or -1 (it is a parameter then). */
        private int levelThatBinds(int name, int depth) {
            for (int level = depth; level >= 0; level--) {
                if (path[level].placeOf(name) >= 0) {
                    return level;
                }
            }
            return -1;
        }

        private boolean didDrop(Program program, Binding binding, int depth) {
            if (program.row.occurrencesOf(binding.name) > 0) {
                return false;
            }
            path[depth].takeAway(places[depth]);
            program.steps[DROP]++;
            return true;
        }
    }

    /** A program written as numbers. */
    private static final class Script {
        private static final int BINDING_MARK = 8;
        private static final int RESULT_MARK = 9;
        // A binding takes at most 11 numbers with the results of its rows, and 60 ints make at most 29 bindings.
        private static final int SCRIPT_LIMIT = 400;

        final int[] numbers;
        int length;

        Script() {
            numbers = new int[SCRIPT_LIMIT];
            length = 0;
        }

        void writeProgram(Program program) {
            length = 0;
            writeRow(program.row, 0);
        }

        private void writeRow(Row row, int depth) {
            for (int k = 0; k < row.bindings.size() && depth < NESTING_LIMIT; k++) {
                writeBinding(row.bindings.get(k), depth);
            }
            put(RESULT_MARK);
            writeAtom(row.result);
        }

        private void writeBinding(Binding binding, int depth) {
            put(BINDING_MARK);
            put(binding.name);
            put(binding.kind);
            if (binding.kind == FUN || binding.kind == OP) {
                put(binding.detail);
            }
            for (Atom atom : binding.atoms) {
                writeAtom(atom);
            }
            for (Row inner : binding.rows) {
                writeRow(inner, depth + 1);
            }
        }

        private void writeAtom(Atom atom) {
            put(atom.isName ? 1 : 0);
            put(atom.value);
        }

        private void put(int number) {
            if (length < SCRIPT_LIMIT) {
                numbers[length] = number;
                length++;
            }
        }
    }

    /**
     * Runs programs. A value is a long: an int's 32 bits, or FUNCTION_MARK and the function's index.
     * What names stand for is kept in cells, each with the one before it that can still be seen; a
     * function keeps the cell that was the last when it was made. The arrays are made once, as a run
     * may use hundreds of cells and an object may be run hundreds of times.
     */
    private static final class Machine {
        private static final int BINDING_LIMIT = 400;
        private static final int ROW_LIMIT = 12;
        // A binding makes a cell for its name, and one for the parameter if it is an APPLY.
        private static final int CELL_LIMIT = 2 * BINDING_LIMIT;
        private static final int NO_CELL = -1;
        private static final long FUNCTION_MARK = 1L << 32;
        private static final long INT_BITS = FUNCTION_MARK - 1;

        private static final int FINE = 0;
        private static final int APPLIED_AN_INT = 1;
        private static final int WANTED_AN_INT = 2;
        private static final int DIVIDED_BY_ZERO = 3;
        private static final int TOO_DEEP = 4;
        private static final int TOO_LONG = 5;

        private final int[] cellNames;
        private final long[] cellValues;
        private final int[] cellsBefore;
        private int cells;
        private final Binding[] functions;
        private final int[] functionCells;
        private int functionsMade;
        private int ending;

        int number;
        boolean endedInFunction;
        int begun;
        int deepest;

        Machine() {
            cellNames = new int[CELL_LIMIT];
            cellValues = new long[CELL_LIMIT];
            cellsBefore = new int[CELL_LIMIT];
            functions = new Binding[BINDING_LIMIT];
            functionCells = new int[BINDING_LIMIT];
        }

        int start(Program program) {
            cells = 0;
            functionsMade = 0;
            ending = FINE;
            begun = 0;
            deepest = 0;
            long value = valueOfRow(program.row, NO_CELL, 0);
            endedInFunction = ending == FINE && isFunction(value);
            number = ending == FINE && !endedInFunction ? (int) value : 0;
            return ending;
        }

        /** What this and the methods below answer counts only while the ending is FINE. */
        private long valueOfRow(Row row, int cell, int rowsAround) {
            if (rowsAround > ROW_LIMIT) {
                return endWith(TOO_DEEP);
            }
            deepest = Math.max(deepest, rowsAround);
            int lastCell = cell;
            for (int k = 0; k < row.bindings.size(); k++) {
                Binding binding = row.bindings.get(k);
                long value = valueOfBinding(binding, lastCell, rowsAround);
                if (ending != FINE) {
                    return 0;
                }
                lastCell = newCell(binding.name, value, lastCell);
            }
            return valueOfAtom(row.result, lastCell);
        }

        private long valueOfBinding(Binding binding, int cell, int rowsAround) {
            if (begun >= BINDING_LIMIT) {
                return endWith(TOO_LONG);
            }
            begun++;
            switch (binding.kind) {
                case FUN:
                    return newFunction(binding, cell);
                case APPLY:
                    return valueOfApply(binding, cell, rowsAround);
                case OP:
                    return valueOfOp(binding, cell);
                default:
                    return valueOfIf(binding, cell, rowsAround);
            }
        }

        private long valueOfApply(Binding binding, int cell, int rowsAround) {
            long called = valueOfAtom(binding.atoms[0], cell);
            int index = (int) called;
            if (!isFunction(called) || index < 0 || index >= functionsMade) {
                return endWith(APPLIED_AN_INT);
            }
            Binding function = functions[index];
            long argument = valueOfAtom(binding.atoms[1], cell);
            int parameterCell = newCell(function.detail, argument, functionCells[index]);
            return valueOfRow(function.rows[0], parameterCell, rowsAround + 1);
        }

        private long valueOfOp(Binding binding, int cell) {
            long a = valueOfAtom(binding.atoms[0], cell);
            long b = valueOfAtom(binding.atoms[1], cell);
            if (isFunction(a) || isFunction(b)) {
                return endWith(WANTED_AN_INT);
            }
            if (dividesByZero(binding.detail, (int) b)) {
                return endWith(DIVIDED_BY_ZERO);
            }
            return intValue(calculated(binding.detail, (int) a, (int) b));
        }

        private long valueOfIf(Binding binding, int cell, int rowsAround) {
            long condition = valueOfAtom(binding.atoms[0], cell);
            if (isFunction(condition)) {
                return endWith(WANTED_AN_INT);
            }
            Row chosen = binding.rows[condition == 0 ? 1 : 0];
            return valueOfRow(chosen, cell, rowsAround + 1);
        }

        private long valueOfAtom(Atom atom, int cell) {
            if (!atom.isName) {
                return intValue(atom.value);
            }
            int seen = cell;
            for (int looks = 0; looks < CELL_LIMIT && seen >= 0; looks++) {
                if (cellNames[seen] == atom.value) {
                    return cellValues[seen];
                }
                seen = cellsBefore[seen];
            }
            return 0;
        }

        private int newCell(int name, long value, int before) {
            if (cells >= CELL_LIMIT) {
                return before;
            }
            cellNames[cells] = name;
            cellValues[cells] = value;
            cellsBefore[cells] = before;
            cells++;
            return cells - 1;
        }

        private long newFunction(Binding binding, int cell) {
            if (functionsMade >= BINDING_LIMIT) {
                return 0;
            }
            functions[functionsMade] = binding;
            functionCells[functionsMade] = cell;
            functionsMade++;
            return FUNCTION_MARK + functionsMade - 1;
        }

        private long endWith(int error) {
            ending = error;
            return 0;
        }

        private static boolean isFunction(long value) {
            return value >= FUNCTION_MARK;
        }

        private static long intValue(int number) {
            return number & INT_BITS;
        }
    }
}
