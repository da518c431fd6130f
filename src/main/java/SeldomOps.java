/**
 * Methods in rows of operations on words, judged ahead of any run by their shapes, then walked step by step.
 * The words in capitals in the comments are those of the document.
 */
public final class SeldomOps {
    public static final int NONE = -1, BAD = -2, NO = -3, FULL = -4;

    // KINDS; NOTHING is a RESULT only.
    private static final int INT = 0, LONG = 1, FLOAT = 2, DOUBLE = 3, THING = 4, NOTHING = 5;
    private static final int KINDS = 5;

    // What a WORD of a SHAPE may be beside the KINDS.
    private static final int UNUSABLE = 5, LONG_END = 6, DOUBLE_END = 7;

    // What cells may be beside the KINDS.
    private static final int BYTES = 5, SHORTS = 6;
    private static final int CELL_SORTS = 8;

    // TYPES: 8 for each DIMENSION, and what the innermost cells are.
    private static final int DIMENSION = 8, DIMENSIONS = 3;

    private static final int METHODS = 8, ARGUMENT_WORDS = 8, LOCALS = 16, STACK = 12, OPERATIONS = 60, HANDLERS = 6;
    private static final int CONSTANTS = 40, TABLES = 8, ENTRIES = 8, GIVEN = 8;
    private static final int THINGS = 60, CELLS = 100, CALLS = 6, STEPS = 3000;
    private static final int FAILURE_NUMBERS = 16, FAILURE_THING = -100;

    // OPERATIONS by their numbers.
    private static final int PUSH_INT = 0, PUSH_LONG = 1, PUSH_FLOAT = 2, PUSH_DOUBLE = 3, PUSH_NULL = 4;
    private static final int LOAD = 5, STORE = 6, ADD_TO_LOCAL = 7;
    private static final int DROP_ONE = 8, DROP_TWO = 9, SWAP = 16;
    private static final int CALCULATE = 17, CONVERT = 18, COMPARE = 19;
    private static final int GO = 20, GO_BY_SIGN = 21, GO_BY_NULL = 22, GO_BY_TABLE = 23;
    private static final int NEW_ARRAY = 24, GET_CELL = 25, PUT_CELL = 26, COUNT_CELLS = 27;
    private static final int IS_OF_TYPE = 28, MUST_BE_OF_TYPE = 29;
    private static final int NEW_FAILURE = 30, FAIL = 31, TAKE_MONITOR = 32, LET_GO_MONITOR = 33;
    private static final int LEAVE = 34, CALL = 35, CODES = 36;

    // Of the moves DROP_ONE to SWAP: how many WORDS are the upper part of what is told, and how many lie under it.
    private static final int[] MOVE_UPPER = {1, 2, 1, 1, 1, 2, 2, 2, 1};
    private static final int[] MOVE_UNDER = {0, 0, 0, 1, 2, 0, 1, 2, 1};

    // CALCULATE, by its a.
    private static final int QUOTIENT = 3, REST = 4, SHIFT_LEFT = 8, SHIFT_ZEROS = 10, NEGATE = 11, CALCULATIONS = 12;

    // CONVERT, by its a.
    private static final int LONG_TO_INT = 3, INT_TO_LONG = 4, CONVERSIONS = 5;

    private static final int COMPARISONS = 5, SIGN_TESTS = 6, NULL_TESTS = 2;

    // FAULTS.
    private static final int NO_FAULT = 0, NO_NEXT = 1, NO_TARGET = 2, WRONG_STACK = 3, HIGH_STACK = 4;
    private static final int WRONG_LOCAL = 5, UNLIKE_STACKS = 6, WRONG_OPERAND = 7, WRONG_RESULT = 8;

    // FAILURES.
    private static final int BY_ZERO = 0, IS_NULL = 1, NO_CELL = 2, NOT_STORABLE = 3, SIZE_BELOW_ZERO = 4;
    private static final int OTHER_TYPE = 5, WRONG_MONITOR = 6, NO_ROOM = 7, TOO_DEEP = 8;

    // What walk() answers.
    private static final int OVER = 0, FAILED = 1, OUT_OF_STEPS = 2;

    private final Program program;
    private final Judge judging;
    private final Walker walker;
    private final long[] given;
    private int givenCount;

    public SeldomOps() {
        program = new Program();
        judging = new Judge(program);
        walker = new Walker(program);
        given = new long[GIVEN];
        givenCount = 0;
    }

    public int method(int result) {
        if (!within(result, KINDS + 1)) {
            return BAD;
        }
        if (program.methodCount == METHODS) {
            return FULL;
        }
        program.forgetJudgements();
        return program.addMethod(result);
    }

    public int argument(int m, int kind) {
        Method method = program.findMethod(m);
        if (method == null || !within(kind, KINDS)) {
            return BAD;
        }
        if (method.argumentWords + width(kind) > ARGUMENT_WORDS) {
            return FULL;
        }
        program.forgetJudgements();
        return method.addArgument(kind);
    }

    public int op(int m, int op, int a, int b) {
        Method method = program.findMethod(m);
        if (method == null || !within(op, CODES)) {
            return BAD;
        }
        if (method.operations == OPERATIONS) {
            return FULL;
        }
        program.forgetJudgements();
        int i = method.operations;
        method.operations++;
        method.setOperation(i, op, a, b);
        return i;
    }

    public int alter(int m, int i, int op, int a, int b) {
        Method method = program.findMethod(m);
        if (method == null || !within(i, method.operations) || !within(op, CODES)) {
            return BAD;
        }
        program.forgetJudgements();
        method.setOperation(i, op, a, b);
        return i;
    }

    public int handler(int m, int from, int to, int target, int number) {
        Method method = program.findMethod(m);
        if (method == null || from < 0 || from > to || to > OPERATIONS) {
            return BAD;
        }
        if (!within(target, OPERATIONS) || number < NONE || number >= FAILURE_NUMBERS) {
            return BAD;
        }
        if (method.handlers == HANDLERS) {
            return FULL;
        }
        program.forgetJudgements();
        return method.addHandler(from, to, target, number);
    }

    public int constant(long bits) {
        if (program.constantCount == CONSTANTS) {
            return FULL;
        }
        program.forgetJudgements();
        return program.addConstant(bits);
    }

    public int table(boolean sparse, int low, int other) {
        if (!within(other, OPERATIONS)) {
            return BAD;
        }
        if (program.tableCount == TABLES) {
            return FULL;
        }
        program.forgetJudgements();
        return program.addTable(sparse, low, other);
    }

    public int entry(int t, int key, int target) {
        Table table = program.findTable(t);
        if (table == null || !within(target, OPERATIONS)) {
            return BAD;
        }
        if (!table.mayFollow(key)) {
            return NO;
        }
        if (table.entries == ENTRIES) {
            return FULL;
        }
        program.forgetJudgements();
        return table.addEntry(key, target);
    }

    public int count(int what) {
        switch (what) {
            case 0:
                return program.methodCount;
            case 1:
                return program.constantCount;
            case 2:
                return program.tableCount;
            case 3:
                return givenCount;
            default:
                return BAD;
        }
    }

    public int judge(int m) {
        Method method = program.findMethod(m);
        return method == null ? BAD : judging.examine(m, method);
    }

    public int fault(int what) {
        switch (what) {
            case 0:
                return judging.faultMethod;
            case 1:
                return judging.faultOperation;
            default:
                return BAD;
        }
    }

    public int good(int m) {
        Method method = program.findMethod(m);
        if (method == null) {
            return BAD;
        }
        return method.faultless ? 1 : 0;
    }

    public int shape(int m, int i, int k) {
        Method method = program.findMethod(m);
        if (method == null || !within(i, method.operations) || k < -1 - LOCALS || k >= STACK) {
            return BAD;
        }
        return method.judged ? method.shapes.tell(i, k) : NONE;
    }

    public int give(long bits) {
        if (givenCount == GIVEN) {
            return FULL;
        }
        given[givenCount] = bits;
        givenCount++;
        return givenCount;
    }

    public int walk(int m, int steps) {
        Method method = program.findMethod(m);
        if (method == null || steps < 0 || steps > STEPS) {
            return BAD;
        }
        if (!program.allFaultless() || givenCount != method.arguments) {
            return NO;
        }
        givenCount = 0;
        walker.start(m, method, given);
        return walker.run(steps);
    }

    public long value() {
        return walker.resultBits;
    }

    public int told(int what) {
        return walker.report(what);
    }

    public int thing(int i, int what) {
        return walker.things.describe(i, what);
    }

    public long cell(int i, int k) {
        Things things = walker.things;
        return things.hasCell(i, k) ? things.read(i, k) : BAD;
    }

    private static boolean within(int number, int bound) {
        return number >= 0 && number < bound;
    }

    private static boolean isWide(int kind) {
        return kind == LONG || kind == DOUBLE;
    }

    private static int width(int kind) {
        return isWide(kind) ? 2 : 1;
    }

    private static int endOf(int wideKind) {
        return wideKind == LONG ? LONG_END : DOUBLE_END;
    }

    private static boolean isEnd(long word) {
        return word == LONG_END || word == DOUBLE_END;
    }

    private static boolean isType(int type) {
        return type >= DIMENSION && type < DIMENSION * (DIMENSIONS + 1) && type % DIMENSION != THING;
    }

    /** The KIND of what a cell gives: narrow cells give INTS. */
    private static int kindOfCell(int sort) {
        return sort >= BYTES ? INT : sort;
    }

    private static int kindCompared(int comparison) {
        if (comparison == 0) {
            return LONG;
        }
        return comparison <= 2 ? FLOAT : DOUBLE;
    }

    /** All that is told: METHODS, CONSTANTS, TABLES. */
    private static final class Program {
        final Method[] methods = new Method[METHODS];
        int methodCount = 0;
        final long[] constants = new long[CONSTANTS];
        int constantCount = 0;
        final Table[] tables = new Table[TABLES];
        int tableCount = 0;

        Method findMethod(int m) {
            return within(m, methodCount) ? methods[m] : null;
        }

        Table findTable(int t) {
            return within(t, tableCount) ? tables[t] : null;
        }

        long readConstant(int c) {
            return within(c, constantCount) ? constants[c] : 0;
        }

        int addMethod(int result) {
            int m = methodCount;
            methods[m] = new Method(result);
            methodCount++;
            return m;
        }

        int addConstant(long bits) {
            int c = constantCount;
            constants[c] = bits;
            constantCount++;
            return c;
        }

        int addTable(boolean sparse, int low, int other) {
            int t = tableCount;
            tables[t] = new Table(sparse, low, other);
            tableCount++;
            return t;
        }

        /** A METHOD's judgement may rest on any other METHOD, so all are dropped together. */
        void forgetJudgements() {
            for (int m = 0; m < methodCount; m++) {
                methods[m].judged = false;
                methods[m].faultless = false;
            }
        }

        boolean allFaultless() {
            for (int m = 0; m < methodCount; m++) {
                if (!methods[m].faultless) {
                    return false;
                }
            }
            return true;
        }
    }

    private static final class Method {
        final int result;
        final int[] kinds = new int[ARGUMENT_WORDS];
        int arguments = 0;
        int argumentWords = 0;
        final int[] codes = new int[OPERATIONS];
        final int[] firsts = new int[OPERATIONS];
        final int[] seconds = new int[OPERATIONS];
        int operations = 0;
        final int[] froms = new int[HANDLERS];
        final int[] tos = new int[HANDLERS];
        final int[] targets = new int[HANDLERS];
        final int[] numbers = new int[HANDLERS];
        int handlers = 0;
        final Shapes shapes = new Shapes();
        boolean judged = false;
        boolean faultless = false;

        Method(int result) {
            this.result = result;
        }

        int addArgument(int kind) {
            kinds[arguments] = kind;
            arguments++;
            argumentWords += width(kind);
            return argumentWords;
        }

        void setOperation(int i, int code, int a, int b) {
            codes[i] = code;
            firsts[i] = a;
            seconds[i] = b;
        }

        int addHandler(int from, int to, int target, int number) {
            froms[handlers] = from;
            tos[handlers] = to;
            targets[handlers] = target;
            numbers[handlers] = number;
            handlers++;
            return handlers;
        }

        boolean covers(int h, int i) {
            return froms[h] <= i && i < tos[h];
        }

        /** The target of the first HANDLER that catches this FAILURE at OPERATION i, or NONE. */
        int catcher(int i, int number) {
            for (int h = 0; h < handlers; h++) {
                if (covers(h, i) && (numbers[h] == NONE || numbers[h] == number)) {
                    return targets[h];
                }
            }
            return NONE;
        }
    }

    private static final class Table {
        final boolean sparse;
        final int low;
        final int other;
        final int[] keys = new int[ENTRIES];
        final int[] targets = new int[ENTRIES];
        int entries = 0;

        Table(boolean sparse, int low, int other) {
            this.sparse = sparse;
            this.low = low;
            this.other = other;
        }

        boolean mayFollow(int key) {
            if (sparse) {
                return entries == 0 || key > keys[entries - 1];
            }
            // A long, as the key behind the greatest INT must not run over to the least one.
            return key == (long) low + entries;
        }

        int addEntry(int key, int target) {
            keys[entries] = key;
            targets[entries] = target;
            entries++;
            return entries;
        }

        int targetFor(int key) {
            for (int e = 0; e < entries; e++) {
                if (keys[e] == key) {
                    return targets[e];
                }
            }
            return other;
        }

        boolean staysBelow(int operations) {
            for (int e = 0; e < entries; e++) {
                if (targets[e] >= operations) {
                    return false;
                }
            }
            return other < operations;
        }
    }

    /** A STACK of WORDS: of a CALL their bits, of a SHAPE what they are, so that both are moved alike. */
    private static final class Words {
        // Two more than a STACK may have: judging does an OPERATION first, then sees that it was too many.
        final long[] words = new long[STACK + 2];
        int depth = 0;

        void clear() {
            depth = 0;
        }

        long at(int k) {
            return k >= 0 && k < depth ? words[k] : NONE;
        }

        void push(long word) {
            if (depth < words.length) {
                words[depth] = word;
                depth++;
            }
        }

        long pop() {
            if (depth == 0) {
                return 0;
            }
            depth--;
            return words[depth];
        }

        /** All bits are in the first WORD; as no value is ever parted, the second need not bear any. */
        void pushBits(int kind, long bits) {
            push(bits);
            if (isWide(kind)) {
                push(0);
            }
        }

        long popBits(int kind) {
            if (isWide(kind)) {
                pop();
            }
            return pop();
        }

        int popInt() {
            return (int) pop();
        }

        void drop(int count) {
            depth = Math.max(0, depth - count);
        }

        void move(int code) {
            int upper = MOVE_UPPER[code - DROP_ONE];
            if (code <= DROP_TWO) {
                drop(upper);
            } else if (code == SWAP) {
                long last = pop();
                long first = pop();
                push(last);
                push(first);
            } else {
                copyUnder(MOVE_UNDER[code - DROP_ONE], upper);
            }
        }

        private void copyUnder(int under, int upper) {
            int base = depth - under - upper;
            if (base < 0 || depth + upper > words.length) {
                return;
            }
            for (int k = depth - 1; k >= base; k--) {
                words[k + upper] = words[k];
            }
            for (int k = 0; k < upper; k++) {
                words[base + k] = words[depth + k];
            }
            depth += upper;
        }
    }

    /** What each WORD of STACK and LOCALS is, as one OPERATION sees or leaves it. */
    private static final class Shape {
        final Words stack = new Words();
        final long[] locals = new long[LOCALS];

        void put(int kind) {
            stack.push(kind);
            if (isWide(kind)) {
                stack.push(endOf(kind));
            }
        }

        boolean take(int kind) {
            int words = width(kind);
            if (stack.at(stack.depth - words) != kind) {
                return false;
            }
            stack.drop(words);
            return true;
        }

        /** Whether a move would part no value at its lower end and between its two parts. */
        boolean mayMove(int code) {
            int parting = stack.depth - MOVE_UPPER[code - DROP_ONE];
            int base = parting - MOVE_UNDER[code - DROP_ONE];
            return base >= 0 && !isEnd(stack.at(base)) && !isEnd(stack.at(parting));
        }

        void store(int place, int kind) {
            writeLocal(place, kind);
            if (isWide(kind)) {
                writeLocal(place + 1, endOf(kind));
            }
            dropHalves(locals, 0);
        }

        boolean holds(int place, int kind) {
            return within(place, LOCALS) && locals[place] == kind;
        }

        private void writeLocal(int place, int word) {
            if (within(place, LOCALS)) {
                locals[place] = word;
            }
        }

        /** In a row of LOCALS, makes unusable each WORD of a two-WORD value whose other one is not there. */
        static void dropHalves(long[] locals, int row) {
            for (int j = 0; j < LOCALS; j++) {
                long word = locals[row + j];
                long next = j + 1 < LOCALS ? locals[row + j + 1] : UNUSABLE;
                long last = j > 0 ? locals[row + j - 1] : UNUSABLE;
                boolean lacksEnd = word == LONG && next != LONG_END || word == DOUBLE && next != DOUBLE_END;
                boolean lacksStart = word == LONG_END && last != LONG || word == DOUBLE_END && last != DOUBLE;
                if (lacksEnd || lacksStart) {
                    locals[row + j] = UNUSABLE;
                }
            }
        }
    }

    /** The SHAPES of all OPERATIONS of a METHOD, in few rows, as there may be many METHODS. */
    private static final class Shapes {
        final int[] depths = new int[OPERATIONS];
        final long[] stacks = new long[OPERATIONS * STACK];
        final long[] locals = new long[OPERATIONS * LOCALS];
        final boolean[] due = new boolean[OPERATIONS];

        void forget() {
            for (int i = 0; i < OPERATIONS; i++) {
                depths[i] = NONE;
                due[i] = false;
            }
        }

        int leastDue() {
            for (int i = 0; i < OPERATIONS; i++) {
                if (due[i]) {
                    return i;
                }
            }
            return NONE;
        }

        void load(int i, Shape into) {
            into.stack.depth = depths[i];
            System.arraycopy(stacks, i * STACK, into.stack.words, 0, STACK);
            System.arraycopy(locals, i * LOCALS, into.locals, 0, LOCALS);
        }

        /** A SHAPE comes to OPERATION i; false if the STACKS are unlike. */
        boolean bring(int i, Shape shape) {
            if (depths[i] == NONE) {
                keep(i, shape);
                due[i] = true;
                return true;
            }
            if (!isStack(i, shape.stack)) {
                return false;
            }
            if (joinLocals(i * LOCALS, shape.locals)) {
                due[i] = true;
            }
            return true;
        }

        /** What shape() answers of an OPERATION. */
        int tell(int i, int k) {
            if (depths[i] == NONE || k >= depths[i]) {
                return NONE;
            }
            if (k == -1) {
                return depths[i];
            }
            return (int) (k >= 0 ? stacks[i * STACK + k] : locals[i * LOCALS - 2 - k]);
        }

        private void keep(int i, Shape shape) {
            depths[i] = shape.stack.depth;
            System.arraycopy(shape.stack.words, 0, stacks, i * STACK, STACK);
            System.arraycopy(shape.locals, 0, locals, i * LOCALS, LOCALS);
        }

        private boolean isStack(int i, Words stack) {
            if (depths[i] != stack.depth) {
                return false;
            }
            for (int k = 0; k < stack.depth; k++) {
                if (stacks[i * STACK + k] != stack.at(k)) {
                    return false;
                }
            }
            return true;
        }

        private boolean joinLocals(int row, long[] others) {
            boolean changed = false;
            for (int j = 0; j < LOCALS; j++) {
                if (locals[row + j] != others[j] && locals[row + j] != UNUSABLE) {
                    locals[row + j] = UNUSABLE;
                    changed = true;
                }
            }
            if (changed) {
                Shape.dropHalves(locals, row);
            }
            return changed;
        }
    }

    /** Judges METHODS, one at a time. */
    private static final class Judge {
        // Each SHAPE is new once, and other once for each LOCAL at most.
        static final int ROUNDS = OPERATIONS * (LOCALS + 1);

        final Program program;
        final Shape behind = new Shape();
        final Shape caught = new Shape();
        int faultMethod = NONE;
        int faultOperation = NONE;
        private int place = 0;

        Judge(Program program) {
            this.program = program;
        }

        /** What judge() answers. */
        int examine(int m, Method method) {
            method.judged = true;
            begin(method);
            int fault = method.operations == 0 ? NO_NEXT : NO_FAULT;
            int i = 0;
            for (int round = 0; round < ROUNDS && i != NONE && fault == NO_FAULT; round++) {
                place = i;
                method.shapes.due[i] = false;
                fault = ownFault(method, i);
                if (fault == NO_FAULT && !(sendToHandlers(method, i) && sendOn(method, i))) {
                    fault = UNLIKE_STACKS;
                }
                i = method.shapes.leastDue();
            }
            method.faultless = fault == NO_FAULT;
            if (method.faultless) {
                return 0;
            }
            faultMethod = m;
            faultOperation = place;
            return -10 - fault;
        }

        /** OPERATION 0 has the SHAPE of the ARGUMENTS, the others none. */
        private void begin(Method method) {
            place = 0;
            behind.stack.clear();
            for (int j = 0; j < LOCALS; j++) {
                behind.locals[j] = UNUSABLE;
            }
            int word = 0;
            for (int k = 0; k < method.arguments; k++) {
                behind.store(word, method.kinds[k]);
                word += width(method.kinds[k]);
            }
            method.shapes.forget();
            method.shapes.bring(0, behind);
        }

        /** The first FAULT of OPERATION i by itself; without one, the SHAPE behind it is left. */
        private int ownFault(Method method, int i) {
            int code = method.codes[i];
            int a = method.firsts[i];
            int b = method.seconds[i];
            method.shapes.load(i, behind);
            if (!operandsAreSuch(code, a, b)) {
                return WRONG_OPERAND;
            }
            if (!targetsAreThere(method, i)) {
                return NO_TARGET;
            }
            if (!takeAll(code, a, b)) {
                return WRONG_STACK;
            }
            if (code == LOAD && !behind.holds(a, b) || code == ADD_TO_LOCAL && !behind.holds(a, INT)) {
                return WRONG_LOCAL;
            }
            if (code == LEAVE && a != method.result) {
                return WRONG_RESULT;
            }
            putAll(code, a, b);
            if (behind.stack.depth > STACK) {
                return HIGH_STACK;
            }
            return goesToNext(code) && i + 1 >= method.operations ? NO_NEXT : NO_FAULT;
        }

        private boolean operandsAreSuch(int code, int a, int b) {
            switch (code) {
                case PUSH_LONG:
                case PUSH_DOUBLE:
                    return within(a, program.constantCount);
                case LOAD:
                case STORE:
                    return within(b, KINDS) && within(a, LOCALS + 1 - width(b));
                case ADD_TO_LOCAL:
                    return within(a, LOCALS);
                case CALCULATE:
                    return within(a, CALCULATIONS) && (b == INT || b == LONG);
                case CONVERT:
                    return within(a, CONVERSIONS);
                case COMPARE:
                    return within(a, COMPARISONS);
                case GO_BY_SIGN:
                    return within(b, SIGN_TESTS);
                case GO_BY_NULL:
                    return within(b, NULL_TESTS);
                case GO_BY_TABLE:
                    return within(a, program.tableCount);
                case NEW_ARRAY:
                    return isType(a) && b >= 1 && b <= a / DIMENSION;
                case GET_CELL:
                case PUT_CELL:
                    return within(b, CELL_SORTS);
                case IS_OF_TYPE:
                case MUST_BE_OF_TYPE:
                    return isType(a);
                case NEW_FAILURE:
                    return within(a, FAILURE_NUMBERS);
                case LEAVE:
                    return within(a, KINDS + 1);
                case CALL:
                    return within(a, program.methodCount);
                default:
                    return true;
            }
        }

        private boolean targetsAreThere(Method method, int i) {
            int code = method.codes[i];
            int a = method.firsts[i];
            if ((code == GO || code == GO_BY_SIGN || code == GO_BY_NULL) && !within(a, method.operations)) {
                return false;
            }
            if (code == GO_BY_TABLE) {
                Table table = program.findTable(a);
                if (table == null || !table.staysBelow(method.operations)) {
                    return false;
                }
            }
            for (int h = 0; h < method.handlers; h++) {
                if (method.covers(h, i) && method.targets[h] >= method.operations) {
                    return false;
                }
            }
            return true;
        }

        /** Takes from the STACK what the OPERATION takes; false if it is not there. */
        private boolean takeAll(int code, int a, int b) {
            switch (code) {
                case STORE:
                    return behind.take(b);
                case CALCULATE:
                    return takeCalculated(a, b);
                case CONVERT:
                    return behind.take(a == LONG_TO_INT ? LONG : INT);
                case COMPARE:
                    return behind.take(kindCompared(a)) && behind.take(kindCompared(a));
                case GO_BY_SIGN:
                case GO_BY_TABLE:
                    return behind.take(INT);
                case NEW_ARRAY:
                    return takeSizes(b);
                case GET_CELL:
                    return behind.take(INT) && behind.take(THING);
                case PUT_CELL:
                    return behind.take(kindOfCell(b)) && behind.take(INT) && behind.take(THING);
                case GO_BY_NULL:
                case COUNT_CELLS:
                case IS_OF_TYPE:
                case MUST_BE_OF_TYPE:
                case FAIL:
                case TAKE_MONITOR:
                case LET_GO_MONITOR:
                    return behind.take(THING);
                case LEAVE:
                    return a == NOTHING || behind.take(a);
                case CALL:
                    return takeArguments(program.findMethod(a));
                default:
                    return code < DROP_ONE || code > SWAP || behind.mayMove(code);
            }
        }

        private boolean takeCalculated(int a, int kind) {
            if (a < SHIFT_LEFT) {
                return behind.take(kind) && behind.take(kind);
            }
            return (a == NEGATE || behind.take(INT)) && behind.take(kind);
        }

        private boolean takeSizes(int count) {
            for (int s = 0; s < count && s < DIMENSIONS; s++) {
                if (!behind.take(INT)) {
                    return false;
                }
            }
            return true;
        }

        private boolean takeArguments(Method callee) {
            if (callee == null) {
                return false;
            }
            for (int k = callee.arguments - 1; k >= 0; k--) {
                if (!behind.take(callee.kinds[k])) {
                    return false;
                }
            }
            return true;
        }

        /** Puts what the OPERATION puts onto the STACK and into LOCALS. */
        private void putAll(int code, int a, int b) {
            if (code <= PUSH_NULL) {
                // These five are numbered as the KINDS that they push.
                behind.put(code);
            } else if (code >= DROP_ONE && code <= SWAP) {
                behind.stack.move(code);
            } else if (code == STORE) {
                behind.store(a, b);
            } else {
                int kind = kindPut(code, a, b);
                if (kind != NOTHING) {
                    behind.put(kind);
                }
            }
        }

        private int kindPut(int code, int a, int b) {
            switch (code) {
                case LOAD:
                case CALCULATE:
                    return b;
                case CONVERT:
                    return a == INT_TO_LONG ? LONG : INT;
                case COMPARE:
                case COUNT_CELLS:
                case IS_OF_TYPE:
                    return INT;
                case GET_CELL:
                    return kindOfCell(b);
                case NEW_ARRAY:
                case MUST_BE_OF_TYPE:
                case NEW_FAILURE:
                    return THING;
                case CALL:
                    Method callee = program.findMethod(a);
                    return callee == null ? NOTHING : callee.result;
                default:
                    return NOTHING;
            }
        }

        private static boolean goesToNext(int code) {
            return code != GO && code != GO_BY_TABLE && code != FAIL && code != LEAVE;
        }

        private boolean sendToHandlers(Method method, int i) {
            method.shapes.load(i, caught);
            caught.stack.clear();
            caught.put(THING);
            for (int h = 0; h < method.handlers; h++) {
                if (method.covers(h, i) && !send(method, method.targets[h], caught)) {
                    return false;
                }
            }
            return true;
        }

        private boolean sendOn(Method method, int i) {
            int code = method.codes[i];
            int a = method.firsts[i];
            if (code == GO_BY_TABLE) {
                return sendByTable(method, program.findTable(a));
            }
            if ((code == GO || code == GO_BY_SIGN || code == GO_BY_NULL) && !send(method, a, behind)) {
                return false;
            }
            return !goesToNext(code) || send(method, i + 1, behind);
        }

        private boolean sendByTable(Method method, Table table) {
            if (table == null) {
                return true;
            }
            for (int e = 0; e < table.entries; e++) {
                if (!send(method, table.targets[e], behind)) {
                    return false;
                }
            }
            return send(method, table.other, behind);
        }

        /** Where STACKS are unlike, the FAULT is at the OPERATION that the SHAPE came to. */
        private boolean send(Method method, int target, Shape shape) {
            if (!within(target, method.operations) || method.shapes.bring(target, shape)) {
                return true;
            }
            place = target;
            return false;
        }
    }

    /** What OPERATIONS compute of numbers, all told by their bits. */
    private static final class Numbers {
        static int calculateInt(int a, int x, int y) {
            switch (a) {
                case 0:
                    return x + y;
                case 1:
                    return x - y;
                case 2:
                    return x * y;
                case QUOTIENT:
                    return y == 0 ? 0 : x / y;
                case REST:
                    return y == 0 ? 0 : x % y;
                case 5:
                    return x & y;
                case 6:
                    return x | y;
                case 7:
                    return x ^ y;
                case SHIFT_LEFT:
                    return x << y;
                case 9:
                    return x >> y;
                case SHIFT_ZEROS:
                    return x >>> y;
                default:
                    return -x;
            }
        }

        static long calculateLong(int a, long x, long y) {
            switch (a) {
                case 0:
                    return x + y;
                case 1:
                    return x - y;
                case 2:
                    return x * y;
                case QUOTIENT:
                    return y == 0 ? 0 : x / y;
                case REST:
                    return y == 0 ? 0 : x % y;
                case 5:
                    return x & y;
                case 6:
                    return x | y;
                case 7:
                    return x ^ y;
                case SHIFT_LEFT:
                    return x << y;
                case 9:
                    return x >> y;
                case SHIFT_ZEROS:
                    return x >>> y;
                default:
                    return -x;
            }
        }

        /** An INT as a cell of this sort keeps it. */
        static int narrow(int sort, int number) {
            switch (sort) {
                case BYTES:
                    return (byte) number;
                case SHORTS:
                    return (short) number;
                default:
                    return (char) number;
            }
        }

        static long convert(int a, long number) {
            if (a == INT_TO_LONG) {
                return number;
            }
            return a == LONG_TO_INT ? (int) number : narrow(BYTES + a, (int) number);
        }

        static int compareBits(int a, long x, long y) {
            if (a == 0) {
                return order(x, y);
            }
            boolean doubles = a > 2;
            long sizeMask = doubles ? 0x7fffffffffffffffL : 0x7fffffffL;
            long infinity = doubles ? 0x7ff0000000000000L : 0x7f800000L;
            long xSize = x & sizeMask;
            long ySize = y & sizeMask;
            if (xSize > infinity || ySize > infinity) {
                return a % 2 == 1 ? -1 : 1;
            }
            // The bits behind the sign rise with the size, and both zeros become the same number.
            return order(x < 0 ? -xSize : xSize, y < 0 ? -ySize : ySize);
        }

        static boolean passes(int test, int number) {
            switch (test) {
                case 0:
                    return number == 0;
                case 1:
                    return number != 0;
                case 2:
                    return number < 0;
                case 3:
                    return number >= 0;
                case 4:
                    return number > 0;
                default:
                    return number <= 0;
            }
        }

        private static int order(long x, long y) {
            if (x == y) {
                return 0;
            }
            return x < y ? -1 : 1;
        }
    }

    /** The THINGS of a WALK: arrays and FAILURE THINGS. */
    private static final class Things {
        final int[] types = new int[THINGS];
        final int[] sizes = new int[THINGS];
        final int[] held = new int[THINGS];
        final long[] cells = new long[THINGS * CELLS];
        int made = 0;

        void clear() {
            made = 0;
        }

        /** What thing() answers. */
        int describe(int i, int what) {
            if (!within(i, made)) {
                return BAD;
            }
            switch (what) {
                case 0:
                    return types[i];
                case 1:
                    return sizes[i];
                case 2:
                    return held[i];
                default:
                    return BAD;
            }
        }

        boolean isArray(int i) {
            return within(i, made) && types[i] >= 0;
        }

        boolean isOfType(int i, int type) {
            return within(i, made) && types[i] == type;
        }

        /** The number of a FAILURE THING, or NONE. */
        int failureNumber(int i) {
            return within(i, made) && types[i] < 0 ? types[i] - FAILURE_THING : NONE;
        }

        boolean hasCell(int i, int k) {
            return i >= 0 && i < made && k >= 0 && k < sizes[i];
        }

        long read(int i, int k) {
            return hasCell(i, k) ? cells[i * CELLS + k] : 0;
        }

        void write(int i, int k, long bits) {
            if (hasCell(i, k)) {
                cells[i * CELLS + k] = bits;
            }
        }

        /** The FAILURE of using cell k of THING i as a cell of this sort, or NONE. */
        int refuseCell(int i, int k, int sort) {
            if (i == NONE) {
                return IS_NULL;
            }
            if (!isArray(i) || cellSort(types[i]) != sort) {
                return OTHER_TYPE;
            }
            return hasCell(i, k) ? NONE : NO_CELL;
        }

        boolean mayStore(int i, int stored) {
            return stored == NONE || isArray(i) && isOfType(stored, types[i] - DIMENSION);
        }

        /** A new FAILURE THING, or NONE without room for it. */
        int makeFailure(int number) {
            return add(FAILURE_THING + number, 0);
        }

        /** Whether all rows of an array of these sizes find room. */
        boolean haveRoom(int[] lengths, int levels) {
            long rows = 1;
            long all = made;
            for (int level = 0; level < levels && level < lengths.length; level++) {
                if (rows > 0 && lengths[level] > CELLS) {
                    return false;
                }
                all += rows;
                rows *= lengths[level];
            }
            return all <= THINGS;
        }

        /** An array with all that is in it, of which each level has one more size; behind the last one is null. */
        private static int makeRow(Things things, int type, int[] lengths, int level, int levels) {
            if (level >= levels || level >= lengths.length) {
                return NONE;
            }
            int row = things.add(type, lengths[level]);
            boolean hasRows = cellSort(type) == THING;
            for (int k = 0; k < lengths[level]; k++) {
                things.write(row, k, hasRows ? makeRow(things, type - DIMENSION, lengths, level + 1, levels) : 0);
            }
            return row;
        }

        private int add(int type, int size) {
            if (made == THINGS) {
                return NONE;
            }
            int i = made;
            made++;
            types[i] = type;
            sizes[i] = size;
            held[i] = 0;
            return i;
        }

        private static int cellSort(int type) {
            return type >= 2 * DIMENSION ? THING : type % DIMENSION;
        }
    }

    /** A CALL under way. */
    private static final class Call {
        int number = NONE;
        Method method = null;
        int at = 0;
        int next = 0;
        final Words stack = new Words();
        final long[] locals = new long[LOCALS];
        final int[] held = new int[THINGS];
        int holds = 0;

        void begin(int m, Method called) {
            number = m;
            method = called;
            at = 0;
            stack.clear();
            holds = 0;
            for (int t = 0; t < THINGS; t++) {
                held[t] = 0;
            }
        }

        long readLocal(int place) {
            return within(place, LOCALS) ? locals[place] : 0;
        }

        void writeLocal(int place, long bits) {
            if (within(place, LOCALS)) {
                locals[place] = bits;
            }
        }
    }

    /**
     * Walks METHODS. Only those that are GOOD come here, so each OPERATION has its operands, its targets and
     * its WORDS on the STACK. What does an OPERATION answers its FAILURE, or NONE.
     */
    private static final class Walker {
        final Program program;
        final Things things = new Things();
        final Call[] calls = new Call[CALLS];
        final int[] lengths = new int[DIMENSIONS];
        int underWay = 0;
        long resultBits = 0;
        private boolean walked = false;
        private int failure = NONE;
        private int failedOperation = NONE;
        private int failedMethod = NONE;
        private int stepsMade = 0;
        private int callsMade = 0;
        private int mostWords = 0;
        private int failuresCaught = 0;
        private int failingThing = NONE;

        Walker(Program program) {
            this.program = program;
            for (int c = 0; c < CALLS; c++) {
                calls[c] = new Call();
            }
        }

        void start(int m, Method method, long[] given) {
            walked = true;
            things.clear();
            resultBits = 0;
            failure = NONE;
            failedOperation = NONE;
            failedMethod = NONE;
            callsMade = 1;
            mostWords = 0;
            failuresCaught = 0;
            underWay = 1;
            calls[0].begin(m, method);
            int word = 0;
            for (int k = 0; k < method.arguments; k++) {
                calls[0].writeLocal(word, asArgument(method.kinds[k], given[k]));
                word += width(method.kinds[k]);
            }
        }

        int run(int steps) {
            for (stepsMade = 0; stepsMade < steps && underWay > 0; stepsMade++) {
                Call call = calls[underWay - 1];
                int i = call.at;
                call.next = i + 1;
                failingThing = NONE;
                int number = perform(call, call.method.codes[i], call.method.firsts[i], call.method.seconds[i]);
                if (number == NONE) {
                    call.at = call.next;
                } else {
                    raise(number, call.number, i);
                }
                if (underWay > 0) {
                    mostWords = Math.max(mostWords, calls[underWay - 1].stack.depth);
                }
            }
            if (underWay > 0) {
                return OUT_OF_STEPS;
            }
            return failure == NONE ? OVER : FAILED;
        }

        /** What told() answers. */
        int report(int what) {
            if (!within(what, 9)) {
                return BAD;
            }
            if (!walked) {
                return NO;
            }
            switch (what) {
                case 0:
                    return failure;
                case 1:
                    return failedOperation;
                case 2:
                    return failedMethod;
                case 3:
                    return stepsMade;
                case 4:
                    return callsMade;
                case 5:
                    return things.made;
                case 6:
                    return mostWords;
                case 7:
                    return failuresCaught;
                default:
                    return underWay;
            }
        }

        private static long asArgument(int kind, long bits) {
            if (kind == THING) {
                return NONE;
            }
            return isWide(kind) ? bits : (int) bits;
        }

        private int perform(Call call, int code, int a, int b) {
            if (code <= PUSH_NULL) {
                return pushFixed(call.stack, code, a);
            }
            if (code <= ADD_TO_LOCAL) {
                return useLocal(call, code, a, b);
            }
            if (code <= SWAP) {
                call.stack.move(code);
                return NONE;
            }
            if (code <= COMPARE) {
                return compute(call.stack, code, a, b);
            }
            if (code <= GO_BY_TABLE) {
                return jump(call, code, a, b);
            }
            if (code <= MUST_BE_OF_TYPE) {
                return useArray(call.stack, code, a, b);
            }
            if (code <= FAIL) {
                return useFailure(call.stack, code, a);
            }
            if (code <= LET_GO_MONITOR) {
                return useMonitor(call, code);
            }
            return code == LEAVE ? leave(call) : enter(call, a);
        }

        private int pushFixed(Words stack, int code, int a) {
            switch (code) {
                case PUSH_LONG:
                case PUSH_DOUBLE:
                    stack.pushBits(code, program.readConstant(a));
                    break;
                case PUSH_NULL:
                    stack.push(NONE);
                    break;
                default:
                    stack.push(a);
                    break;
            }
            return NONE;
        }

        private int useLocal(Call call, int code, int a, int b) {
            if (code == LOAD) {
                call.stack.pushBits(b, call.readLocal(a));
            } else if (code == STORE) {
                call.writeLocal(a, call.stack.popBits(b));
            } else {
                call.writeLocal(a, (int) call.readLocal(a) + b);
            }
            return NONE;
        }

        private int compute(Words stack, int code, int a, int b) {
            if (code == CALCULATE) {
                return calculate(stack, a, b);
            }
            if (code == CONVERT) {
                long number = stack.popBits(a == LONG_TO_INT ? LONG : INT);
                stack.pushBits(a == INT_TO_LONG ? LONG : INT, Numbers.convert(a, number));
                return NONE;
            }
            long second = stack.popBits(kindCompared(a));
            long first = stack.popBits(kindCompared(a));
            stack.push(Numbers.compareBits(a, first, second));
            return NONE;
        }

        private int calculate(Words stack, int a, int kind) {
            long second = 0;
            if (a != NEGATE) {
                second = stack.popBits(a < SHIFT_LEFT ? kind : INT);
            }
            long first = stack.popBits(kind);
            if ((a == QUOTIENT || a == REST) && second == 0) {
                return BY_ZERO;
            }
            if (kind == LONG) {
                stack.pushBits(LONG, Numbers.calculateLong(a, first, second));
            } else {
                stack.push(Numbers.calculateInt(a, (int) first, (int) second));
            }
            return NONE;
        }

        private int jump(Call call, int code, int a, int b) {
            if (code == GO) {
                call.next = a;
                return NONE;
            }
            int top = call.stack.popInt();
            if (code == GO_BY_TABLE) {
                Table table = program.findTable(a);
                call.next = table == null ? call.next : table.targetFor(top);
                return NONE;
            }
            boolean goes = code == GO_BY_SIGN ? Numbers.passes(b, top) : (top == NONE) == (b == 0);
            if (goes) {
                call.next = a;
            }
            return NONE;
        }

        private int useArray(Words stack, int code, int a, int b) {
            switch (code) {
                case NEW_ARRAY:
                    return newArray(stack, a, b);
                case GET_CELL:
                    return getCell(stack, b);
                case PUT_CELL:
                    return putCell(stack, b);
                case COUNT_CELLS:
                    return countCells(stack);
                case IS_OF_TYPE:
                    stack.push(things.isOfType(stack.popInt(), a) ? 1 : 0);
                    return NONE;
                default:
                    int top = stack.popInt();
                    stack.push(top);
                    return top == NONE || things.isOfType(top, a) ? NONE : OTHER_TYPE;
            }
        }

        private int newArray(Words stack, int type, int levels) {
            boolean belowZero = false;
            for (int level = Math.min(levels, DIMENSIONS) - 1; level >= 0; level--) {
                lengths[level] = stack.popInt();
                belowZero |= lengths[level] < 0;
            }
            if (belowZero) {
                return SIZE_BELOW_ZERO;
            }
            if (!things.haveRoom(lengths, levels)) {
                return NO_ROOM;
            }
            stack.push(Things.makeRow(things, type, lengths, 0, levels));
            return NONE;
        }

        private int getCell(Words stack, int sort) {
            int k = stack.popInt();
            int array = stack.popInt();
            int refused = things.refuseCell(array, k, sort);
            if (refused == NONE) {
                stack.pushBits(kindOfCell(sort), things.read(array, k));
            }
            return refused;
        }

        private int putCell(Words stack, int sort) {
            long bits = stack.popBits(kindOfCell(sort));
            int k = stack.popInt();
            int array = stack.popInt();
            int refused = things.refuseCell(array, k, sort);
            if (refused != NONE) {
                return refused;
            }
            if (sort == THING && !things.mayStore(array, (int) bits)) {
                return NOT_STORABLE;
            }
            things.write(array, k, sort >= BYTES ? Numbers.narrow(sort, (int) bits) : bits);
            return NONE;
        }

        private int countCells(Words stack) {
            int array = stack.popInt();
            if (array == NONE) {
                return IS_NULL;
            }
            if (!things.isArray(array)) {
                return OTHER_TYPE;
            }
            stack.push(things.sizes[array]);
            return NONE;
        }

        private int useFailure(Words stack, int code, int a) {
            if (code == NEW_FAILURE) {
                int made = things.makeFailure(a);
                stack.push(made);
                return made == NONE ? NO_ROOM : NONE;
            }
            int top = stack.popInt();
            if (top == NONE) {
                return IS_NULL;
            }
            if (things.isArray(top)) {
                return OTHER_TYPE;
            }
            failingThing = top;
            return things.failureNumber(top);
        }

        private int useMonitor(Call call, int code) {
            int top = call.stack.popInt();
            if (!within(top, THINGS)) {
                return IS_NULL;
            }
            if (code == LET_GO_MONITOR && call.held[top] == 0) {
                return WRONG_MONITOR;
            }
            int more = code == TAKE_MONITOR ? 1 : -1;
            call.held[top] += more;
            call.holds += more;
            things.held[top] += more;
            return NONE;
        }

        private int leave(Call call) {
            if (call.holds > 0) {
                return WRONG_MONITOR;
            }
            int kind = call.method.result;
            long bits = kind == NOTHING ? 0 : call.stack.popBits(kind);
            underWay--;
            if (underWay == 0) {
                resultBits = bits;
                return NONE;
            }
            Call caller = calls[underWay - 1];
            if (kind != NOTHING) {
                caller.stack.pushBits(kind, bits);
            }
            caller.at++;
            return NONE;
        }

        private int enter(Call call, int m) {
            Method callee = program.findMethod(m);
            if (callee == null || underWay == CALLS) {
                return TOO_DEEP;
            }
            Call inner = calls[underWay];
            underWay++;
            callsMade++;
            inner.begin(m, callee);
            int word = callee.argumentWords;
            for (int k = callee.arguments - 1; k >= 0; k--) {
                word -= width(callee.kinds[k]);
                inner.writeLocal(word, call.stack.popBits(callee.kinds[k]));
            }
            // The caller stands at its CALL till the inner one is over, for HANDLERS that cover it.
            call.next = call.at;
            return NONE;
        }

        /** A FAILURE arises at an OPERATION of a METHOD and ends CALLS till one catches it. */
        private void raise(int number, int m, int i) {
            int raised = failingThing == NONE ? things.makeFailure(number) : failingThing;
            while (underWay > 0) {
                Call call = calls[underWay - 1];
                int target = call.method.catcher(call.at, number);
                if (target != NONE) {
                    call.stack.clear();
                    call.stack.push(raised);
                    call.at = target;
                    failuresCaught++;
                    return;
                }
                letGoAll(call);
                underWay--;
            }
            failure = number;
            failedOperation = i;
            failedMethod = m;
        }

        private void letGoAll(Call call) {
            for (int t = 0; t < THINGS; t++) {
                things.held[t] -= call.held[t];
                call.held[t] = 0;
            }
            call.holds = 0;
        }
    }
}
