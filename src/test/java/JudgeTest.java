/** Promises 11 to 14: judging. */
public final class JudgeTest {
    private static final Checks C = new Checks();
    private static final Runs R = new Runs(C);
    private static final int NONE = SeldomOps.NONE, BAD = SeldomOps.BAD;
    private static final int[] NO_ARGUMENTS = {};

    public static void main(String[] args) {
        refusals();
        operandFaults();
        operandEdges();
        targetFaults();
        stackFaults();
        moveFaults();
        localFaults();
        resultFaults();
        highStacks();
        noNext();
        unlikeStacks();
        orderOfFaults();
        joinedLocals();
        storing();
        handlersSeeShapeAhead();
        orderOfWays();
        leastOperationFirst();
        callsByArguments();
        latestFault();
        shapesAsFarAsItCame();
        C.finish();
    }

    private static int[] op(int... o) {
        return o;
    }

    private static void refusals() {
        SeldomOps x = Programs.single(5, op(34, 5));
        C.due("judge(-1)", x.judge(-1), BAD);
        C.due("judge(1)", x.judge(1), BAD);
        C.due("fault(-1)", x.fault(-1), BAD);
        C.due("fault(2)", x.fault(2), BAD);
        C.due("good(-1)", x.good(-1), BAD);
        C.due("good(1)", x.good(1), BAD);
        C.due("shape before a judge", x.shape(0, 0, -1), NONE);
        x.judge(0);
        C.due("shape m -1", x.shape(-1, 0, 0), BAD);
        C.due("shape m 1", x.shape(1, 0, 0), BAD);
        C.due("shape i -1", x.shape(0, -1, 0), BAD);
        C.due("shape i 1", x.shape(0, 1, 0), BAD);
        C.due("shape k 12", x.shape(0, 0, 12), BAD);
        C.due("shape k -18", x.shape(0, 0, -18), BAD);
        C.due("shape k 11", x.shape(0, 0, 11), NONE);
        C.due("shape k -17", x.shape(0, 0, -17), 5);
        C.due("shape k min", x.shape(0, 0, Integer.MIN_VALUE), BAD);
        C.due("shape k max", x.shape(0, 0, Integer.MAX_VALUE), BAD);
    }

    private static void operandFaults() {
        int[][] wrong = {
            {1, -1}, {1, 1}, {3, -1}, {3, 1}, {5, -1, 0}, {5, 16, 0}, {5, 15, 1}, {5, 15, 3}, {5, 0, 5}, {5, 0, -1},
            {6, -1, 0}, {6, 16, 0}, {6, 15, 1}, {6, 15, 3}, {6, 0, 5}, {6, 0, -1}, {7, -1, 0}, {7, 16, 0},
            {17, -1, 0}, {17, 12, 0}, {17, 0, -1}, {17, 0, 2}, {17, 0, 3}, {17, 0, 4}, {18, -1}, {18, 5},
            {19, -1}, {19, 5}, {21, 0, -1}, {21, 0, 6}, {22, 0, -1}, {22, 0, 2}, {23, -1}, {23, 1},
            {24, 7, 1}, {24, 12, 1}, {24, 20, 1}, {24, 28, 1}, {24, 32, 1}, {24, 8, 0}, {24, 8, 2}, {24, 16, 3},
            {24, 24, 4}, {24, -8, 1}, {25, 0, -1}, {25, 0, 8}, {26, 0, -1}, {26, 0, 8},
            {28, 7}, {28, 12}, {28, 32}, {28, -1}, {29, 0}, {29, 20}, {29, 33}, {30, -1}, {30, 16},
            {34, -1}, {34, 6}, {35, -1}, {35, 1},
        };
        for (int[] o : wrong) {
            R.faultIs("operands " + o[0] + " " + o[1], 7, 0, 5, o);
        }
    }

    private static void operandEdges() {
        int[][] right = {
            {0, Integer.MIN_VALUE, -9}, {1, 0, -9}, {2, Integer.MAX_VALUE, -9}, {3, 0, 77}, {4, -5, -5}, {30, 0}, {30, 15},
        };
        for (int[] o : right) {
            R.faultIs("operands " + o[0] + " " + o[1], 0, 0, 5, o, op(34, 5));
        }
        R.faultIs("LONG in the last LOCALS", 0, 0, 5, op(1, 0), op(6, 14, 1), op(5, 14, 1), op(34, 5));
        R.faultIs("INT in the last LOCAL", 0, 0, 5, op(0, 0), op(6, 15, 0), op(7, 15, 9), op(5, 15, 0), op(34, 5));
        R.faultIs("a TYPE of 3", 0, 0, 5, op(0, 0), op(0, 0), op(0, 0), op(24, 31, 3), op(34, 5));
        R.faultIs("a TYPE of 3, of one size", 0, 0, 5, op(0, 0), op(24, 24, 1), op(34, 5));
    }

    private static void targetFaults() {
        R.faultIs("20 beyond", 2, 0, 5, op(20, 2), op(34, 5));
        R.faultIs("20 below", 2, 0, 5, op(20, -1), op(34, 5));
        R.faultIs("21 beyond", 2, 1, 5, op(0, 0), op(21, 3, 0), op(34, 5));
        R.faultIs("22 beyond", 2, 1, 5, op(4), op(22, 3, 0), op(34, 5));
        SeldomOps x = Programs.single(5, op(0, 0), op(23, 0), op(34, 5));
        x.table(true, 0, 3);
        R.judgedAs("other target of 23", x, 0, 2, 1);
        x = Programs.single(5, op(0, 0), op(23, 0), op(34, 5));
        x.table(true, 0, 2);
        x.entry(0, 1, 2);
        R.judgedAs("23", x, 0, 0, 0);
        x.entry(0, 2, 3);
        R.judgedAs("an entry's target of 23", x, 0, 2, 1);
        x = Programs.single(5, op(0, 0), op(34, 5));
        x.handler(0, 1, 2, 2, 4);
        R.judgedAs("target of a HANDLER that covers it", x, 0, 2, 1);
        x = Programs.single(5, op(0, 0), op(34, 5));
        x.handler(0, 1, 1, 59, 4);
        x.handler(0, 2, 60, 59, 4);
        R.judgedAs("targets of HANDLERS that cover nothing", x, 0, 0, 0);
    }

    private static void stackFaults() {
        int[][] empty = {
            {6, 0, 0}, {8}, {9}, {10}, {11}, {12}, {13}, {14}, {15}, {16}, {17, 0, 0}, {17, 11, 1}, {18, 0}, {18, 4},
            {19, 0}, {21, 0, 0}, {22, 0, 0}, {23, 0}, {24, 8, 1}, {25, 0, 0}, {26, 0, 0}, {27}, {28, 8}, {29, 8}, {31},
            {32}, {33}, {34, 0}, {34, 4},
        };
        for (int[] o : empty) {
            R.faultIs("empty STACK at " + o[0], 3, 0, 5, o, op(34, 5));
        }
        int[][] unlikeFloat = {
            {6, 0, 0}, {17, 11, 0}, {18, 0}, {18, 3}, {18, 4}, {21, 0, 0}, {22, 0, 0}, {23, 0}, {24, 8, 1}, {27},
            {28, 8}, {29, 8}, {31}, {32}, {33}, {34, 0}, {34, 4}, {6, 0, 1}, {6, 0, 3}, {6, 0, 4},
        };
        for (int[] o : unlikeFloat) {
            R.faultIs("FLOAT for " + o[0], 3, 1, 5, op(2, 0), o, op(34, 5));
        }
        R.faultIs("LONG and INT", 3, 2, 5, op(0, 0), op(1, 0), op(17, 0, 1), op(34, 5));
        R.faultIs("INT and LONG", 3, 2, 5, op(1, 0), op(0, 0), op(17, 0, 1), op(34, 5));
        R.faultIs("LONG shifted by INT", 0, 0, 5, op(1, 0), op(0, 0), op(17, 8, 1), op(34, 5));
        R.faultIs("LONG shifted by LONG", 3, 2, 5, op(1, 0), op(1, 0), op(17, 8, 1), op(34, 5));
        R.faultIs("DOUBLE is no LONG", 3, 1, 5, op(3, 0), op(17, 11, 1), op(34, 5));
        R.faultIs("FLOATS are no DOUBLES", 3, 2, 5, op(2, 0), op(2, 0), op(19, 3), op(34, 5));
        R.faultIs("FLOATS", 0, 0, 5, op(2, 0), op(2, 0), op(19, 2), op(34, 5));
        R.faultIs("DOUBLES", 0, 0, 5, op(3, 0), op(3, 0), op(19, 4), op(34, 5));
        R.faultIs("narrow cells take INTS", 0, 0, 5, op(4), op(0, 0), op(0, 0), op(26, 0, 7), op(34, 5));
        R.faultIs("narrow cells take no FLOATS", 3, 3, 5, op(4), op(0, 0), op(2, 0), op(26, 0, 7), op(34, 5));
        R.faultIs("a cell by no INT", 3, 2, 5, op(4), op(4), op(25, 0, 0), op(34, 5));
    }

    /** Each move, over rows of one- and two-WORD values, is good or parts a value. */
    private static void moveFaults() {
        // Rows of pushes: 0 an INT, 1 a LONG; then for 8 to 16 whether it is good.
        int[][] rows = {{0}, {1}, {0, 0}, {0, 1}, {1, 0}, {1, 1}, {0, 0, 0}, {0, 0, 1}, {1, 0, 0}, {0, 1, 0}, {0, 0, 0, 0}};
        String[] good = {
            "101000000", "010001000", "111101001", "010001100", "101010000", "010001010",
            "111111101", "010001110", "111101011", "101010000", "111111111",
        };
        for (int r = 0; r < rows.length; r++) {
            for (int code = 8; code <= 16; code++) {
                SeldomOps x = new SeldomOps();
                x.constant(0);
                int m = x.method(5);
                for (int push : rows[r]) {
                    x.op(m, push, 0, 0);
                }
                x.op(m, code, 0, 0);
                x.op(m, 34, 5, 0);
                int want = good[r].charAt(code - 8) == '1' ? 0 : -13;
                C.due("move " + code + " on row " + r, x.judge(m), want);
            }
        }
        SeldomOps x = R.faultIs("15 on values", 0, 0, 5, op(1, 0), op(2, 0), op(0, 0), op(15), op(34, 5));
        R.stackIs("15 on values", x, 4, 2, 0, 1, 6, 2, 0);
    }

    private static void localFaults() {
        R.faultIs("nothing there", 5, 0, 5, op(5, 3, 0), op(34, 5));
        R.faultIs("7 on nothing", 5, 0, 5, op(7, 3, 1), op(34, 5));
        R.faultIs("7 on a FLOAT", 5, 2, 5, op(2, 3), op(6, 3, 2), op(7, 3, 1), op(34, 5));
        R.faultIs("a FLOAT as INT", 5, 2, 5, op(2, 3), op(6, 3, 2), op(5, 3, 0), op(34, 5));
        R.faultIs("a LONG as DOUBLE", 5, 2, 5, op(1, 0), op(6, 3, 1), op(5, 3, 3), op(34, 5));
        R.faultIs("a LONG's second WORD", 5, 2, 5, op(1, 0), op(6, 3, 1), op(5, 4, 1), op(34, 5));
        R.faultIs("a LONG", 0, 0, 5, op(1, 0), op(6, 3, 1), op(5, 3, 1), op(34, 5));
    }

    private static void resultFaults() {
        R.faultIs("INT for LONG", 8, 1, 1, op(0, 0), op(34, 0));
        R.faultIs("INT for nothing", 8, 1, 5, op(0, 0), op(34, 0));
        R.faultIs("nothing for INT", 8, 0, 0, op(34, 5));
        R.faultIs("3 ahead of 8", 3, 0, 5, op(34, 0));
        R.faultIs("3 ahead of 8, by a", 3, 1, 0, op(0, 0), op(34, 1));
        R.faultIs("7 ahead of 3", 7, 0, 0, op(34, 6));
        R.faultIs("what lies below", 0, 0, 0, op(1, 0), op(0, 0), op(34, 0));
    }

    private static void highStacks() {
        int[][] o = new int[14][];
        for (int i = 0; i < 12; i++) {
            o[i] = op(0, i);
        }
        o[12] = op(34, 0);
        o[13] = op(34, 0);
        R.faultIs("12 WORDS", 0, 0, 0, o);
        int[][] tooMany = {{0}, {1}, {4}, {10}, {11}, {12}, {13}, {14}, {15}, {18, 4}, {30, 0}};
        for (int[] last : tooMany) {
            o[12] = last;
            R.faultIs("13 WORDS by " + last[0], 4, 12, 0, o);
        }
        o[11] = op(8);
        o[12] = op(13);
        R.faultIs("12 WORDS by 13", 0, 0, 0, o);
    }

    private static void noNext() {
        SeldomOps x = new SeldomOps();
        x.method(5);
        R.judgedAs("no OPERATIONS", x, 0, 1, 0);
        R.faultIs("behind a push", 1, 0, 5, op(0, 0));
        R.faultIs("behind 21", 1, 1, 5, op(0, 0), op(21, 0, 0));
        R.faultIs("behind 22", 1, 1, 5, op(4), op(22, 0, 0));
        R.faultIs("behind 35", 1, 0, 5, op(35, 0));
        int[][] o = new int[13][];
        for (int i = 0; i < 13; i++) {
            o[i] = op(0, i);
        }
        R.faultIs("4 ahead of 1", 4, 12, 5, o);
        R.faultIs("20 has no next", 0, 0, 5, op(20, 0));
        R.faultIs("31 has no next", 0, 0, 5, op(4), op(31));
        R.faultIs("23 has no next", 0, 0, 5, op(0, 0), op(20, 3), op(34, 5), op(23, 0));
    }

    private static void unlikeStacks() {
        R.faultIs("other depths", 6, 0, 5, op(0, 0), op(20, 0));
        R.faultIs("other words", 6, 4, 5, op(0, 0), op(21, 5, 0), op(0, 0), op(20, 4), op(34, 5), op(2, 0), op(20, 4));
        SeldomOps x = Programs.single(5, op(0, 0), op(34, 5));
        x.handler(0, 1, 2, 1, -1);
        R.judgedAs("a HANDLER that goes to where an INT is", x, 0, 6, 1);
        x = Programs.single(5, op(4), op(32), op(34, 5));
        x.handler(0, 1, 2, 1, -1);
        R.judgedAs("a HANDLER that covers itself", x, 0, 0, 0);
    }

    private static void orderOfFaults() {
        R.faultIs("7 ahead of 2", 7, 0, 5, op(21, 9, 6), op(34, 5));
        R.faultIs("2 ahead of 3", 2, 0, 5, op(21, 9, 0), op(34, 5));
        SeldomOps x = Programs.single(5, op(5, 0, 0));
        x.handler(0, 0, 1, 9, 0);
        R.judgedAs("2 ahead of 5", x, 0, 2, 0);
        R.faultIs("5 ahead of 1", 5, 0, 5, op(5, 0, 0));
        R.faultIs("3 ahead of 1", 3, 0, 5, op(8));
        int[][] o = new int[13][];
        for (int i = 0; i < 12; i++) {
            o[i] = op(0, i);
        }
        o[12] = op(5, 0, 0);
        R.faultIs("5 ahead of 4", 5, 12, 5, o);
        R.faultIs("unreached OPERATIONS have no FAULT", 0, 0, 5, op(34, 5), op(1, 99), op(8));
    }

    private static void joinedLocals() {
        // LOCAL 1 is an INT on one way, a FLOAT on the other one; LOCALS 2, 3 a LONG on one way only.
        SeldomOps x = new SeldomOps();
        x.constant(0);
        Programs.method(x, 5, new int[] {0},
            op(0, 1), op(6, 1, 0), op(1, 0), op(6, 2, 1), op(5, 0, 0), op(21, 9, 0),
            op(2, 0), op(6, 1, 2), op(20, 9), op(5, 0, 0), op(34, 5));
        R.judgedAs("ways that join", x, 0, 0, 0);
        C.due("the INT of both ways", x.shape(0, 9, -2), 0);
        C.due("INT and FLOAT", x.shape(0, 9, -3), 5);
        C.due("LONG of both ways", x.shape(0, 9, -4), 1);
        C.due("LONG of both ways, second", x.shape(0, 9, -5), 6);
        C.due("on one way", x.shape(0, 8, -3), 2);
        C.due("the joined SHAPE goes on", x.shape(0, 10, -3), 5);
        x.alter(0, 6, 0, 0, 0);
        x.alter(0, 7, 6, 3, 0);
        R.judgedAs("a LONG broken on one way", x, 0, 0, 0);
        C.due("broken first", x.shape(0, 9, -4), 5);
        C.due("broken second", x.shape(0, 9, -5), 5);
        x.alter(0, 9, 5, 2, 1);
        R.judgedAs("a LONG that is gone", x, 0, 5, 9);

        // A loop whose end makes a LOCAL unusable at its head, which is done again.
        SeldomOps y = new SeldomOps();
        Programs.method(y, 5, new int[] {0}, op(5, 0, 0), op(8), op(2, 0), op(6, 0, 2), op(20, 0));
        R.judgedAs("a loop that spoils its LOCAL", y, 0, 5, 0);
        C.due("spoilt", y.shape(0, 0, -2), 5);
    }

    private static void storing() {
        // A LONG in 4, 5; then one more in 5, 6: 4 is no value any more; then an INT in 6: 5 neither.
        SeldomOps x = new SeldomOps();
        x.constant(0);
        Programs.method(x, 5, NO_ARGUMENTS, op(1, 0), op(6, 4, 1), op(3, 0), op(6, 5, 3), op(0, 0), op(6, 6, 0),
            op(1, 0), op(6, 8, 1), op(2, 0), op(6, 8, 2), op(1, 0), op(6, 7, 1), op(34, 5));
        R.judgedAs("storing", x, 0, 0, 0);
        R.localsAre("storing", x, 2, 4, 1, 6, 5);
        R.localsAre("storing", x, 4, 4, 5, 3, 7);
        R.localsAre("storing", x, 6, 4, 5, 5, 0);
        R.localsAre("storing", x, 8, 7, 5, 1, 6);
        R.localsAre("storing", x, 10, 7, 5, 2, 5);
        R.localsAre("storing", x, 12, 6, 0, 1, 6);
        C.due("LOCAL 9", x.shape(0, 12, -11), 5);

        SeldomOps y = new SeldomOps();
        y.constant(0);
        Programs.method(y, 5, new int[] {4, 1, 3, 2}, op(3, 0), op(6, 2, 3), op(34, 5));
        R.judgedAs("over ARGUMENTS", y, 0, 0, 0);
        R.localsAre("storing", y, 0, 0, 4, 1, 6, 3, 7, 2, 5);
        R.localsAre("storing", y, 2, 0, 4, 5, 3, 7, 5, 2, 5);
    }

    private static void handlersSeeShapeAhead() {
        SeldomOps x = new SeldomOps();
        Programs.method(x, 5, NO_ARGUMENTS, op(0, 7), op(6, 0, 0), op(34, 5), op(8), op(34, 5));
        x.handler(0, 1, 2, 3, -1);
        R.judgedAs("HANDLER of a store", x, 0, 0, 0);
        C.due("one WORD", x.shape(0, 3, -1), 1);
        C.due("a THING", x.shape(0, 3, 0), 4);
        C.due("no second WORD", x.shape(0, 3, 1), NONE);
        C.due("nothing stored yet", x.shape(0, 3, -2), 5);
        C.due("stored behind it", x.shape(0, 2, -2), 0);
        x.handler(0, 2, 3, 3, -1);
        R.judgedAs("HANDLER behind the store", x, 0, 0, 0);
        C.due("joined with nothing", x.shape(0, 3, -2), 5);
    }

    private static void orderOfWays() {
        // Both ways of the 21 at 3 meet unlike STACKS; the target's is told.
        R.faultIs("the target first", 6, 0, 5, op(0, 0), op(21, 5, 0), op(20, 4), op(21, 0, 0), op(34, 5),
            op(0, 0), op(0, 0), op(20, 3));
        // Handlers ahead of the ways on: 1 fails to its HANDLER's target 0 first.
        SeldomOps x = Programs.single(5, op(0, 0), op(20, 0));
        x.handler(0, 1, 2, 1, 3);
        R.judgedAs("HANDLERS first", x, 0, 6, 1);
        // Entries in order, then the other one.
        x = Programs.single(5, op(0, 0), op(0, 0), op(23, 0), op(34, 5));
        x.table(false, 0, 0);
        x.entry(0, 0, 2);
        x.entry(0, 1, 1);
        R.judgedAs("entries in order", x, 0, 6, 2);
        x = Programs.single(5, op(4), op(32), op(34, 5));
        x.handler(0, 0, 1, 2, 3);
        x.handler(0, 0, 1, 0, 3);
        R.judgedAs("HANDLERS in order", x, 0, 6, 0);
    }

    private static void leastOperationFirst() {
        // 1 goes to 4 and 2; 2's FAULT is told, as it is less, though 4's was sent first.
        R.faultIs("the least first", 3, 2, 5, op(0, 0), op(21, 4, 0), op(8), op(34, 5), op(8), op(34, 5));
    }

    private static void callsByArguments() {
        SeldomOps x = new SeldomOps();
        x.constant(0);
        Programs.method(x, 5, NO_ARGUMENTS, op(0, 1), op(1, 0), op(4), op(35, 1), op(34, 5));
        Programs.method(x, 3, new int[] {0, 1, 4}, op(3, 0), op(34, 3));
        R.judgedAs("ARGUMENTS", x, 0, 0, 0);
        C.due("RESULT", x.shape(0, 4, 0), 3);
        C.due("RESULT, second", x.shape(0, 4, 1), 7);
        C.due("WORDS behind the CALL", x.shape(0, 4, -1), 2);
        x.argument(1, 2);
        R.judgedAs("too few ARGUMENTS", x, 0, 3, 3);
        x.alter(0, 3, 35, 2, 0);
        R.judgedAs("no such METHOD", x, 0, 7, 3);
        x.method(5);
        R.judgedAs("a METHOD without ARGUMENTS and OPERATIONS", x, 0, 0, 0);
        C.due("nothing goes, nothing comes", x.shape(0, 4, -1), 4);
        R.judgedAs("but it has a FAULT", x, 2, 1, 0);
    }

    private static void latestFault() {
        SeldomOps x = new SeldomOps();
        Programs.method(x, 5, NO_ARGUMENTS, op(34, 5));
        Programs.method(x, 5, NO_ARGUMENTS, op(0, 0), op(9), op(34, 5));
        x.judge(0);
        C.due("none yet", x.fault(0), NONE);
        C.due("none yet", x.fault(1), NONE);
        R.judgedAs("a FAULT", x, 1, 3, 1);
        x.judge(0);
        C.due("the latest with a FAULT", x.fault(0), 1);
        x.op(0, 0, 0, 0);
        C.due("stays", x.fault(1), 1);
        C.due("shape after telling", x.shape(1, 0, -1), NONE);
    }

    private static void shapesAsFarAsItCame() {
        SeldomOps x = new SeldomOps();
        Programs.method(x, 5, NO_ARGUMENTS, op(0, 0), op(21, 4, 0), op(8), op(34, 5), op(34, 5));
        Programs.method(x, 5, NO_ARGUMENTS, op(34, 5));
        R.judgedAs("a FAULT at 2", x, 0, 3, 2);
        x.judge(1);
        C.due("0", x.shape(0, 0, -1), 0);
        C.due("1", x.shape(0, 1, -1), 1);
        C.due("2, where the FAULT is", x.shape(0, 2, -1), 0);
        C.due("3 was not reached", x.shape(0, 3, -1), NONE);
        C.due("3 was not reached, LOCAL", x.shape(0, 3, -2), NONE);
        C.due("4 was", x.shape(0, 4, -1), 0);
    }
}
