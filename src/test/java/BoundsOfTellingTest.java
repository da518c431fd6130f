import java.util.function.IntUnaryOperator;

/** Promises 1 to 10: each sentence that names a bound, at the bound and just beside it. */
public final class BoundsOfTellingTest {
    private static final Checks C = new Checks();
    private static final Runs R = new Runs(C);
    private static final int NONE = SeldomOps.NONE, BAD = SeldomOps.BAD, NO = SeldomOps.NO, FULL = SeldomOps.FULL;
    private static final int LEAST = Integer.MIN_VALUE, MOST = Integer.MAX_VALUE;
    private static final int INT = 0, LONG = 1, FLOAT = 2, DOUBLE = 3, THING = 4;

    public static void main(String[] args) {
        constantsOfTheFace();
        nothingInANewObject();
        results();
        eightMethods();
        numbersOfMethods();
        kindsOfArguments();
        eightWordsOfArguments();
        wordsOfEachKind();
        numbersOfOperations();
        operandsAreNotLookedAt();
        sixtyOperations();
        placesToAlter();
        alteredFromNowOn();
        handlersFromAndTo();
        handlersTargetsAndNumbers();
        sixHandlers();
        fortyConstants();
        sixtyFourBits();
        otherTargets();
        eightTables();
        tablesAndTargetsOfEntries();
        denseKeys();
        denseKeysBeyondNumbers();
        sparseKeys();
        eightEntries();
        whatIsCounted();
        C.finish();
    }

    private static void constantsOfTheFace() {
        C.due("NONE", NONE, -1);
        C.due("BAD", BAD, -2);
        C.due("NO", NO, -3);
        C.due("FULL", FULL, -4);
    }

    /** "No METHODS, CONSTANTS, TABLES; nothing GIVEN." */
    private static void nothingInANewObject() {
        SeldomOps x = new SeldomOps();
        for (int what = 0; what < 4; what++) {
            C.due("1: count(" + what + ")", x.count(what), 0);
        }
        numbersAreNone("1: new", x, 0);
        C.due("1: no TABLE", x.entry(0, 0, 0), BAD);
        C.due("1: the first METHOD", x.method(5), 0);
        C.due("1: the first CONSTANT", x.constant(1), 0);
        C.due("1: the first TABLE", x.table(true, 0, 0), 0);
        C.due("1: the first GIVEN", x.give(1), 1);
    }

    /** All calls that name a METHOD, of one that there is not. */
    private static void numbersAreNone(String what, SeldomOps x, int m) {
        C.due(what + ": argument of METHOD " + m, x.argument(m, INT), BAD);
        C.due(what + ": op of METHOD " + m, x.op(m, 4, 0, 0), BAD);
        C.due(what + ": alter of METHOD " + m, x.alter(m, 0, 4, 0, 0), BAD);
        C.due(what + ": handler of METHOD " + m, x.handler(m, 0, 1, 0, 0), BAD);
        C.due(what + ": judge of METHOD " + m, x.judge(m), BAD);
        C.due(what + ": good of METHOD " + m, x.good(m), BAD);
        C.due(what + ": shape of METHOD " + m, x.shape(m, 0, -1), BAD);
        C.due(what + ": walk of METHOD " + m, x.walk(m, 9), BAD);
    }

    private static SeldomOps withMethods(int count) {
        SeldomOps x = new SeldomOps();
        for (int m = 0; m < count; m++) {
            Programs.method(x, 5, new int[0], Programs.op(34, 5));
        }
        return x;
    }

    /** "A METHOD with a RESULT (0 .. 5): its number." */
    private static void results() {
        R.bounded("2: RESULT", 0, 5, 0, BAD, n -> new SeldomOps().method(n));
        SeldomOps x = new SeldomOps();
        x.method(6);
        x.method(-1);
        C.due("2: a RESULT that is none makes no METHOD", x.count(0), 0);
    }

    /** "A METHOD (8 at most, numbered from 0)" */
    private static void eightMethods() {
        SeldomOps x = new SeldomOps();
        for (int m = 0; m < 8; m++) {
            C.due("2: METHOD", x.method(5), m);
        }
        C.due("2: a ninth", x.method(5), FULL);
        C.due("2: BAD ahead of FULL, below", x.method(-1), BAD);
        C.due("2: BAD ahead of FULL, above", x.method(6), BAD);
        C.due("2: eight there are", x.count(0), 8);
    }

    /** "BAD (no such METHOD ..)", with some METHODS and with as many as there may be. */
    private static void numbersOfMethods() {
        for (int count = 1; count <= 8; count += 7) {
            SeldomOps x = withMethods(count);
            for (int m : new int[] {-1, count, LEAST, MOST}) {
                numbersAreNone("of " + count, x, m);
            }
            int last = count - 1;
            C.due("argument of the last METHOD", x.argument(last, INT), 1);
            C.due("op of the last METHOD", x.op(last, 4, 0, 0), 1);
            C.due("alter of the last METHOD", x.alter(last, 1, 34, 5, 0), 1);
            C.due("handler of the last METHOD", x.handler(last, 0, 0, 0, 0), 1);
            C.due("all are judged", Programs.judgeAll(x), 0);
            C.due("good of the last METHOD", x.good(last), 1);
            C.due("shape of the last METHOD", x.shape(last, 0, -1), 0);
            x.give(0);
            C.due("walk of the last METHOD", x.walk(last, 9), 0);
        }
    }

    /** "BAD: KIND" */
    private static void kindsOfArguments() {
        R.bounded("3: KIND", INT, THING, 1, BAD, kind -> withMethods(1).argument(0, kind));
    }

    /** "A LONG, a DOUBLE takes two WORDS, others one." */
    private static void wordsOfEachKind() {
        int[] words = {1, 2, 1, 2, 1};
        for (int kind = INT; kind <= THING; kind++) {
            SeldomOps x = withMethods(1);
            C.due("3: WORDS of KIND " + kind, x.argument(0, kind), words[kind]);
            C.due("3: WORDS of two of KIND " + kind, x.argument(0, kind), 2 * words[kind]);
        }
    }

    private static SeldomOps withArgumentWords(int words) {
        SeldomOps x = withMethods(2);
        for (int w = 0; w < words; w++) {
            x.argument(0, FLOAT);
        }
        return x;
    }

    /** "An ARGUMENT more: how many WORDS all have. .. FULL: above 8." */
    private static void eightWordsOfArguments() {
        for (int kind = INT; kind <= THING; kind++) {
            int width = Programs.width(kind);
            SeldomOps x = withArgumentWords(8 - width);
            C.due("3: up to 8 by KIND " + kind, x.argument(0, kind), 8);
            x = withArgumentWords(9 - width);
            C.due("3: above 8 by KIND " + kind, x.argument(0, kind), FULL);
            C.due("3: another METHOD has its own", x.argument(1, kind), width);
        }
        SeldomOps x = withArgumentWords(7);
        C.due("3: 7 and a DOUBLE", x.argument(0, DOUBLE), FULL);
        C.due("3: 7 and a LONG", x.argument(0, LONG), FULL);
        C.due("3: 7 and a THING", x.argument(0, THING), 8);
        C.due("3: BAD ahead of FULL, KIND below", x.argument(0, -1), BAD);
        C.due("3: BAD ahead of FULL, KIND above", x.argument(0, 5), BAD);
        C.due("3: BAD ahead of FULL, METHOD", x.argument(2, INT), BAD);
        C.due("3: FULL still", x.argument(0, INT), FULL);
    }

    /** "BAD: op is not 0 .. 35" */
    private static void numbersOfOperations() {
        R.bounded("4: op", 0, 35, 1, BAD, op -> withMethods(1).op(0, op, 0, 0));
        R.bounded("5: op", 0, 35, 0, BAD, op -> withMethods(1).alter(0, 0, op, 0, 0));
    }

    /** "(operands are not looked at)" */
    private static void operandsAreNotLookedAt() {
        SeldomOps x = withMethods(1);
        for (int op = 0; op <= 35; op++) {
            C.due("4: any operands of " + op, x.op(0, op, LEAST, MOST), op + 1);
            C.due("5: any operands of " + op, x.alter(0, op, op, MOST, LEAST), op);
        }
    }

    private static SeldomOps withOperations(int count) {
        SeldomOps x = withMethods(2);
        for (int i = 1; i < count; i++) {
            x.op(0, 34, 5, 0);
        }
        return x;
    }

    /** "up to 60 OPERATIONS, numbered from 0" */
    private static void sixtyOperations() {
        SeldomOps x = withOperations(59);
        C.due("4: the sixtieth", x.op(0, 34, 5, 0), 59);
        C.due("4: one more", x.op(0, 34, 5, 0), FULL);
        C.due("4: BAD ahead of FULL, below", x.op(0, -1, 0, 0), BAD);
        C.due("4: BAD ahead of FULL, above", x.op(0, 36, 0, 0), BAD);
        C.due("4: BAD ahead of FULL, METHOD", x.op(2, 0, 0, 0), BAD);
        C.due("4: another METHOD has its own", x.op(1, 34, 5, 0), 1);
        C.due("5: the last of 60", x.alter(0, 59, 34, 5, 0), 59);
        C.due("5: behind 60", x.alter(0, 60, 34, 5, 0), BAD);
    }

    /** "OPERATION i is another one from now on: its number. BAD likewise." */
    private static void placesToAlter() {
        SeldomOps x = withOperations(5);
        C.due("5: the first", x.alter(0, 0, 34, 5, 0), 0);
        C.due("5: the last", x.alter(0, 4, 34, 5, 0), 4);
        for (int i : new int[] {-1, 5, LEAST, MOST}) {
            C.due("5: place " + i, x.alter(0, i, 34, 5, 0), BAD);
        }
        C.due("5: altering adds none", x.op(0, 34, 5, 0), 5);
        SeldomOps empty = new SeldomOps();
        empty.method(5);
        C.due("5: no OPERATIONS", empty.alter(0, 0, 34, 5, 0), BAD);
    }

    private static void alteredFromNowOn() {
        SeldomOps x = Programs.single(INT, Programs.op(0, 7), Programs.op(0, 8), Programs.op(34, INT));
        R.walked("5: before", 0, x);
        C.due("5: before", x.value(), 8);
        x.alter(0, 1, 0, 9, 0);
        R.walked("5: a is another one", 0, x);
        C.due("5: a is another one", x.value(), 9);
        x.alter(0, 1, 10, 0, 0);
        R.walked("5: only this one is another", 0, x);
        C.due("5: only this one is another", x.value(), 7);
    }

    /** "BAD: from is not 0 .. to, to not 0 .. 60" */
    private static void handlersFromAndTo() {
        int[][] good = {{0, 0}, {0, 1}, {0, 60}, {59, 60}, {60, 60}, {30, 30}, {29, 30}};
        for (int[] range : good) {
            C.due("6: " + range[0] + " .. " + range[1], withMethods(1).handler(0, range[0], range[1], 0, 0), 1);
        }
        int[][] bad = {
            {-1, 0}, {-1, -1}, {-1, 60}, {1, 0}, {31, 30}, {60, 59}, {61, 60}, {0, 61}, {60, 61}, {61, 61}, {0, -1},
            {LEAST, 60}, {0, MOST}, {MOST, MOST}, {LEAST, LEAST}, {MOST, LEAST}, {0, LEAST},
        };
        for (int[] range : bad) {
            C.due("6: " + range[0] + " .. " + range[1], withMethods(1).handler(0, range[0], range[1], 0, 0), BAD);
        }
    }

    /** "target not 0 .. 59, number not -1 .. 15" */
    private static void handlersTargetsAndNumbers() {
        R.bounded("6: target", 0, 59, 1, BAD, target -> withMethods(1).handler(0, 0, 1, target, 0));
        R.bounded("6: number", -1, 15, 1, BAD, number -> withMethods(1).handler(0, 0, 1, 0, number));
    }

    /** "up to 6 HANDLERS" */
    private static void sixHandlers() {
        SeldomOps x = withMethods(2);
        for (int h = 1; h <= 6; h++) {
            C.due("6: how many", x.handler(0, 0, 1, 0, 0), h);
        }
        C.due("6: a seventh", x.handler(0, 0, 1, 0, 0), FULL);
        C.due("6: BAD ahead of FULL, METHOD", x.handler(2, 0, 1, 0, 0), BAD);
        C.due("6: BAD ahead of FULL, from", x.handler(0, 2, 1, 0, 0), BAD);
        C.due("6: BAD ahead of FULL, to", x.handler(0, 0, 61, 0, 0), BAD);
        C.due("6: BAD ahead of FULL, target", x.handler(0, 0, 1, 60, 0), BAD);
        C.due("6: BAD ahead of FULL, number", x.handler(0, 0, 1, 0, 16), BAD);
        C.due("6: another METHOD has its own", x.handler(1, 0, 1, 0, 0), 1);
    }

    /** "CONSTANTS (40 at most)" */
    private static void fortyConstants() {
        SeldomOps x = new SeldomOps();
        for (int c = 0; c < 40; c++) {
            C.due("7: CONSTANT", x.constant(c), c);
        }
        C.due("7: one more", x.constant(40), FULL);
        C.due("7: forty there are", x.count(1), 40);
        Programs.method(x, LONG, new int[0], Programs.op(1, 39), Programs.op(34, LONG));
        R.walked("7: the last one", 0, x);
        C.due("7: the last one", x.value(), 39);
    }

    /** "64 bits each" */
    private static void sixtyFourBits() {
        long[] all = {0, -1, 1L << 31, 1L << 32, Long.MAX_VALUE, Long.MIN_VALUE, 0x7ff0000000000001L};
        for (long bits : all) {
            for (int kind : new int[] {LONG, DOUBLE}) {
                SeldomOps x = Runs.withConstant(bits, kind, Programs.op(kind, 0), Programs.op(34, kind));
                R.walked("7: bits", 0, x);
                C.due("7: bits as KIND " + kind, x.value(), bits);
            }
        }
    }

    /** "the other target (0 .. 59): its number. BAD" and "(low does not count)" */
    private static void otherTargets() {
        for (int low : new int[] {0, LEAST, MOST}) {
            R.bounded("8: DENSE, other", 0, 59, 0, BAD, other -> new SeldomOps().table(false, low, other));
            R.bounded("8: SPARSE, other", 0, 59, 0, BAD, other -> new SeldomOps().table(true, low, other));
        }
        SeldomOps x = new SeldomOps();
        x.table(true, 0, 60);
        x.table(false, 0, -1);
        C.due("8: another target that is none makes no TABLE", x.count(2), 0);
    }

    /** "TABLES (8 at most)" */
    private static void eightTables() {
        SeldomOps x = new SeldomOps();
        for (int t = 0; t < 8; t++) {
            C.due("8: TABLE", x.table(t % 2 == 1, 0, 0), t);
        }
        C.due("8: a ninth, DENSE", x.table(false, 0, 0), FULL);
        C.due("8: a ninth, SPARSE", x.table(true, 0, 0), FULL);
        C.due("8: BAD ahead of FULL, below", x.table(false, 0, -1), BAD);
        C.due("8: BAD ahead of FULL, above", x.table(true, 0, 60), BAD);
        C.due("8: eight there are", x.count(2), 8);
        C.due("9: an entry of the eighth", x.entry(7, 0, 0), 1);
        C.due("9: an entry of a ninth", x.entry(8, 0, 0), BAD);
    }

    private static SeldomOps dense(int low, int entries) {
        return filled(false, low, low, entries);
    }

    private static SeldomOps sparse(int first, int entries) {
        return filled(true, 0, first, entries);
    }

    private static SeldomOps filled(boolean isSparse, int low, int first, int entries) {
        SeldomOps x = new SeldomOps();
        x.table(isSparse, low, 0);
        for (int e = 0; e < entries; e++) {
            C.due("9: how many", x.entry(0, first + e, 0), e + 1);
        }
        return x;
    }

    /** "An entry more of a TABLE, with a target (0 .. 59): how many. BAD" */
    private static void tablesAndTargetsOfEntries() {
        R.bounded("9: target, DENSE", 0, 59, 1, BAD, target -> dense(5, 0).entry(0, 5, target));
        R.bounded("9: target, SPARSE", 0, 59, 1, BAD, target -> sparse(5, 0).entry(0, 5, target));
        IntUnaryOperator ofThree = t -> {
            SeldomOps x = dense(5, 0);
            x.table(false, 5, 0);
            x.table(false, 5, 0);
            return x.entry(t, 5, 0);
        };
        R.bounded("9: TABLE", 0, 2, 1, BAD, ofThree);
        C.due("9: BAD ahead of NO, target above", dense(5, 0).entry(0, 6, 60), BAD);
        C.due("9: BAD ahead of NO, target below", sparse(5, 1).entry(0, 5, -1), BAD);
        C.due("9: BAD ahead of NO, TABLE", dense(5, 0).entry(1, 6, 0), BAD);
    }

    /** "NO: DENSE: the key is not low and how many there are" */
    private static void denseKeys() {
        for (int low : new int[] {LEAST, -4, 0, 7, MOST - 8}) {
            for (int there = 0; there < 8; there++) {
                int due = low + there;
                SeldomOps x = dense(low, there);
                C.due("9: one below " + due, x.entry(0, due - 1, 0), NO);
                C.due("9: one above " + due, x.entry(0, due + 1, 0), NO);
                C.due("9: the key " + due, x.entry(0, due, 0), there + 1);
                C.due("9: " + due + " once more", x.entry(0, due, 0), NO);
            }
        }
    }

    /** "(more than numbers go)" */
    private static void denseKeysBeyondNumbers() {
        for (int there = 1; there <= 8; there++) {
            SeldomOps x = dense(MOST - there + 1, there);
            for (int key : new int[] {LEAST, LEAST + 1, -1, 0, MOST - there, MOST - 1, MOST}) {
                C.due("9: key " + key + " behind the greatest, of " + there, x.entry(0, key, 0), NO);
            }
            C.due("9: BAD ahead of that", x.entry(0, LEAST, 60), BAD);
        }
        C.due("9: the greatest behind 8", dense(MOST - 8, 8).entry(0, MOST, 0), FULL);
    }

    /** "SPARSE: not above the one before" */
    private static void sparseKeys() {
        for (int first : new int[] {LEAST, -1, 0, MOST - 1, MOST}) {
            C.due("9: any first key", sparse(0, 0).entry(0, first, 0), 1);
        }
        for (int before : new int[] {LEAST + 1, -1, 0, 9, MOST - 1}) {
            C.due("9: below", sparse(before, 1).entry(0, before - 1, 0), NO);
            C.due("9: like", sparse(before, 1).entry(0, before, 0), NO);
            C.due("9: above", sparse(before, 1).entry(0, before + 1, 0), 2);
            C.due("9: the least", sparse(before, 1).entry(0, LEAST, 0), NO);
            C.due("9: the greatest", sparse(before, 1).entry(0, MOST, 0), 2);
        }
        C.due("9: behind the greatest, it", sparse(MOST, 1).entry(0, MOST, 0), NO);
        C.due("9: behind the greatest, the least", sparse(MOST, 1).entry(0, LEAST, 0), NO);
        SeldomOps x = sparse(4, 2);
        C.due("9: above the first, not the one before", x.entry(0, 5, 0), NO);
        C.due("9: above the one before", x.entry(0, 6, 0), 3);
    }

    /** "FULL: 8" */
    private static void eightEntries() {
        C.due("9: the eighth, DENSE", dense(3, 7).entry(0, 10, 0), 8);
        C.due("9: a ninth, DENSE", dense(3, 8).entry(0, 11, 0), FULL);
        C.due("9: NO ahead of FULL, below", dense(3, 8).entry(0, 10, 0), NO);
        C.due("9: NO ahead of FULL, above", dense(3, 8).entry(0, 12, 0), NO);
        C.due("9: BAD ahead of FULL, DENSE", dense(3, 8).entry(0, 11, 60), BAD);
        C.due("9: the eighth, SPARSE", sparse(3, 7).entry(0, 10, 0), 8);
        C.due("9: a ninth, SPARSE", sparse(3, 8).entry(0, 11, 0), FULL);
        C.due("9: NO ahead of FULL, SPARSE", sparse(3, 8).entry(0, 10, 0), NO);
        C.due("9: BAD ahead of FULL, SPARSE", sparse(3, 8).entry(0, 11, -1), BAD);
        SeldomOps x = dense(3, 8);
        x.table(false, 3, 0);
        C.due("9: another TABLE has its own", x.entry(1, 3, 0), 1);
    }

    /** "How many: 0 METHODS, 1 CONSTANTS, 2 TABLES, 3 GIVEN. BAD." */
    private static void whatIsCounted() {
        R.bounded("10: what", 0, 3, 0, BAD, what -> new SeldomOps().count(what));
        SeldomOps x = new SeldomOps();
        for (int n = 1; n <= 41; n++) {
            x.method(5);
            x.constant(0);
            x.table(true, 0, 0);
            x.give(0);
            C.due("10: METHODS", x.count(0), Math.min(n, 8));
            C.due("10: CONSTANTS", x.count(1), Math.min(n, 40));
            C.due("10: TABLES", x.count(2), Math.min(n, 8));
            C.due("10: GIVEN", x.count(3), Math.min(n, 8));
        }
    }
}
