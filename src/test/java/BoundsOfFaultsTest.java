import java.util.function.IntUnaryOperator;

/** Section 3 of the document, with promise 11: each FAULT where it just is, and where it just is not. */
public final class BoundsOfFaultsTest {
    private static final Checks C = new Checks();
    private static final Runs R = new Runs(C);
    private static final int LEAST = Integer.MIN_VALUE, MOST = Integer.MAX_VALUE;
    private static final int[] NO_ARGUMENTS = {};
    private static final int[] LEAVE = {34, 5};
    private static final String KINDS = "ILFDT";

    public static void main(String[] args) {
        operandsInBounds();
        operandsThatMayBeAny();
        localsOfOneAndTwoWords();
        whatThereIsToName();
        types();
        sizesOfArrays();
        targetsOfJumps();
        targetsOfTables();
        targetsOfHandlers();
        operationsThatHandlersCover();
        whatOperationsTake();
        whatCallsTake();
        localsOfThatKind();
        resultsOfThatKind();
        twelveWords();
        twelveWordsByCalls();
        noNextOperation();
        noOperations();
        unlikeStacks();
        stacksOfHandlers();
        theFirstFault();
        C.finish();
    }

    private static int[] op(int... o) {
        return o;
    }

    /** Whether the one OPERATION at 0 has this FAULT: 7 and 2 are looked at ahead of the STACK, which is empty. */
    private static int hasFault(int fault, int code, int a, int b) {
        SeldomOps x = new SeldomOps();
        for (int n = 0; n < 3; n++) {
            x.constant(0);
            x.table(n == 0, 0, 0);
            Programs.method(x, 5, NO_ARGUMENTS, op(code, a, b), LEAVE);
        }
        return x.judge(0) == -10 - fault ? 1 : 0;
    }

    private static void boundedA(int code, int low, int high, int b) {
        R.bounded("7: a of " + code + " with b " + b, low, high, 0, 1, a -> hasFault(7, code, a, b));
    }

    private static void boundedB(int code, int low, int high, int a) {
        R.bounded("7: b of " + code + " with a " + a, low, high, 0, 1, b -> hasFault(7, code, a, b));
    }

    /** "7 an operand is none such", of those with bounds of their own. */
    private static void operandsInBounds() {
        boundedA(17, 0, 11, 0);
        boundedA(17, 0, 11, 1);
        boundedB(17, 0, 1, 0);
        boundedB(17, 0, 1, 11);
        boundedA(18, 0, 4, 0);
        boundedA(19, 0, 4, 0);
        boundedB(21, 0, 5, 0);
        boundedB(22, 0, 1, 0);
        boundedB(25, 0, 7, 0);
        boundedB(26, 0, 7, 0);
        boundedA(30, 0, 15, 0);
        boundedA(34, 0, 5, 0);
    }

    /** "(.. 2, 0: any ..)", and those that the document does not tell of. */
    private static void operandsThatMayBeAny() {
        int[] any = {0, 2, 4, 8, 9, 10, 11, 12, 13, 14, 15, 16, 27, 31, 32, 33};
        for (int code : any) {
            for (int a : new int[] {LEAST, -1, MOST}) {
                C.due("7: any a of " + code, hasFault(7, code, a, 0), 0);
            }
        }
        int[] freeOfB = {0, 1, 2, 3, 4, 8, 9, 10, 11, 12, 13, 14, 15, 16, 18, 19, 20, 23, 27, 30, 31, 32, 33, 34, 35};
        for (int code : freeOfB) {
            for (int b : new int[] {LEAST, -1, MOST}) {
                C.due("7: any b of " + code, hasFault(7, code, 0, b), 0);
            }
        }
        for (int b : new int[] {LEAST, -1, MOST}) {
            C.due("7: any b of 7", hasFault(7, 7, 15, b), 0);
            C.due("7: any b of 28", hasFault(7, 28, 8, b), 0);
            C.due("7: any b of 29", hasFault(7, 29, 8, b), 0);
            C.due("7: any a of 25", hasFault(7, 25, b, 4), 0);
            C.due("7: any a of 26", hasFault(7, 26, b, 4), 0);
            C.due("7: a target is no operand of 7", hasFault(7, 20, b, 0), 0);
            C.due("7: a target is no operand of 7", hasFault(7, 21, b, 0), 0);
            C.due("7: a target is no operand of 7", hasFault(7, 22, b, 0), 0);
        }
    }

    /** "5, 6, 7: a LOCAL, with two WORDS both; b of 5, 6: KIND" */
    private static void localsOfOneAndTwoWords() {
        for (int code = 5; code <= 6; code++) {
            for (int kind = 0; kind < 5; kind++) {
                boundedA(code, 0, 16 - Programs.width(kind), kind);
            }
            boundedB(code, 0, 4, 0);
            boundedB(code, 0, 4, 14);
        }
        boundedA(7, 0, 15, 0);
        boundedA(7, 0, 15, 1);
    }

    /** "a of 1, 3: a CONSTANT", "23 .. a TABLE", "35: a METHOD" */
    private static void whatThereIsToName() {
        boundedA(1, 0, 2, 0);
        boundedA(3, 0, 2, 0);
        boundedA(23, 0, 2, 0);
        boundedA(35, 0, 2, 0);
        for (int[] o : new int[][] {op(1, 0), op(3, 0), op(23, 0), op(35, 1)}) {
            R.judgedAs("7: none there", Programs.single(5, o, LEAVE), 0, 7, 0);
        }
        SeldomOps x = Programs.single(5, op(1, 39), op(3, 40), LEAVE);
        for (int c = 0; c < 40; c++) {
            x.constant(c);
        }
        R.judgedAs("7: behind the last CONSTANT", x, 0, 7, 1);
        SeldomOps y = Programs.single(5, op(35, 7), op(35, 8), LEAVE);
        for (int m = 1; m < 8; m++) {
            y.method(5);
        }
        R.judgedAs("7: behind the last METHOD", y, 0, 7, 1);
        SeldomOps z = Programs.single(5, op(0, 0), op(23, 7), op(0, 0), op(23, 8), LEAVE);
        for (int t = 0; t < 8; t++) {
            z.table(false, 0, 2);
        }
        R.judgedAs("7: behind the last TABLE", z, 0, 7, 3);
    }

    /** "8 n + e, n from 1 to 3 .. 0 .., 1 .., 2 .., 3 .., 5 .., 6 .., 7 .. (no 4)" */
    private static void types() {
        int[] some = {LEAST, LEAST + 8, LEAST + 9, -8, -1, 0, 5, 7, MOST - 7, MOST};
        for (int code : new int[] {24, 28, 29}) {
            for (int type : some) {
                C.due("7: TYPE " + type + " of " + code, hasFault(7, code, type, 1), 1);
            }
            for (int type = 8; type < 48; type++) {
                boolean isOne = type <= 31 && type != 12 && type != 20 && type != 28;
                C.due("7: TYPE " + type + " of " + code, hasFault(7, code, type, 1), isOne ? 0 : 1);
            }
        }
    }

    /** "b INTS, 1 to 3 .. (of b DIMENSIONS at least)" */
    private static void sizesOfArrays() {
        for (int n = 1; n <= 3; n++) {
            boundedB(24, 1, n, 8 * n);
            boundedB(24, 1, n, 8 * n + 7);
        }
    }

    private static int jumpsNowhere(int code, int target, int operations) {
        SeldomOps x = Programs.single(5, Programs.row(new int[][] {op(code, target)},
            Programs.times(operations - 1, 34, 5)));
        return x.judge(0) == -12 ? 1 : 0;
    }

    /** "2 a target is no OPERATION (of 20 to 22 ..)" */
    private static void targetsOfJumps() {
        for (int code = 20; code <= 22; code++) {
            for (int operations : new int[] {1, 2, 7, 60}) {
                int jump = code;
                R.bounded("2: target of " + code + " among " + operations, 0, operations - 1, 0, 1,
                    target -> jumpsNowhere(jump, target, operations));
            }
        }
    }

    /** "of 23 one of its entries, or the other one" */
    private static void targetsOfTables() {
        for (int wrong = -1; wrong <= 8; wrong++) {
            SeldomOps x = Programs.single(5, op(0, 0), op(23, 0), LEAVE);
            x.table(false, 0, wrong == 8 ? 3 : 2);
            for (int e = 0; e < 8; e++) {
                x.entry(0, e, wrong == e ? 3 : 2);
            }
            R.judgedAs("2: target " + wrong, x, 0, wrong < 0 ? 0 : 2, 1);
        }
        SeldomOps x = Programs.single(5, op(0, 0), op(23, 1), LEAVE);
        x.table(true, 0, 59);
        x.table(true, 0, 2);
        R.judgedAs("2: another TABLE's target", x, 0, 0, 0);
    }

    /** "of a HANDLER that covers it" */
    private static void targetsOfHandlers() {
        IntUnaryOperator byTarget = target -> {
            SeldomOps x = Programs.single(5, op(4), op(31), op(31));
            x.handler(0, 1, 2, target, 0);
            return x.judge(0);
        };
        C.due("2: the last OPERATION", byTarget.applyAsInt(2), 0);
        C.due("2: behind the last", byTarget.applyAsInt(3), -12);
        C.due("2: the greatest", byTarget.applyAsInt(59), -12);
        SeldomOps x = Programs.single(5, op(4), op(31), op(31));
        for (int h = 1; h <= 6; h++) {
            x.handler(0, 1, 2, h == 6 ? 3 : 2, h);
        }
        R.judgedAs("2: of the sixth HANDLER", x, 0, 2, 1);
    }

    /** "covers the OPERATION (from its from up to ahead of its to)" */
    private static void operationsThatHandlersCover() {
        for (int from = 0; from <= 5; from++) {
            for (int to = from; to <= 6; to++) {
                SeldomOps x = Programs.single(5, op(4), op(4), op(4), op(4), LEAVE);
                x.handler(0, from, to, 59, -1);
                boolean covers = from < to && from < 5;
                R.judgedAs("2: covered " + from + " .. " + to, x, 0, covers ? 2 : 0, from);
            }
        }
    }

    /** Each OPERATION that takes something, with the KINDS that it takes, the uppermost last. */
    private static final String[] TAKES = {
        "6 0 0 I", "6 0 1 L", "6 0 2 F", "6 0 3 D", "6 0 4 T",
        "17 0 0 II", "17 1 0 II", "17 2 0 II", "17 3 0 II", "17 4 0 II", "17 5 0 II", "17 6 0 II", "17 7 0 II",
        "17 8 0 II", "17 9 0 II", "17 10 0 II", "17 11 0 I",
        "17 0 1 LL", "17 1 1 LL", "17 2 1 LL", "17 3 1 LL", "17 4 1 LL", "17 5 1 LL", "17 6 1 LL", "17 7 1 LL",
        "17 8 1 LI", "17 9 1 LI", "17 10 1 LI", "17 11 1 L",
        "18 0 0 I", "18 1 0 I", "18 2 0 I", "18 3 0 L", "18 4 0 I",
        "19 0 0 LL", "19 1 0 FF", "19 2 0 FF", "19 3 0 DD", "19 4 0 DD",
        "21 N 0 I", "22 N 0 T", "23 0 0 I", "24 24 1 I", "24 24 2 II", "24 24 3 III",
        "25 0 0 TI", "25 0 1 TI", "25 0 2 TI", "25 0 3 TI", "25 0 4 TI", "25 0 5 TI", "25 0 6 TI", "25 0 7 TI",
        "26 0 0 TII", "26 0 1 TIL", "26 0 2 TIF", "26 0 3 TID", "26 0 4 TIT", "26 0 5 TII", "26 0 6 TII", "26 0 7 TII",
        "27 0 0 T", "28 8 0 T", "29 8 0 T", "31 0 0 T", "32 0 0 T", "33 0 0 T",
        "34 0 0 I", "34 1 0 L", "34 2 0 F", "34 3 0 D", "34 4 0 T",
    };

    /** "3 the STACK has too few WORDS, or not such (a value would be parted)" */
    private static void whatOperationsTake() {
        for (String row : TAKES) {
            String[] part = row.split(" ");
            String takes = part[3];
            takesFrom(part, takes, 0);
            takesFrom(part, "D" + takes, 0);
            for (int k = 0; k < takes.length(); k++) {
                takesFrom(part, takes.substring(k + 1), 3);
                for (int kind = 0; kind < 5; kind++) {
                    boolean same = KINDS.charAt(kind) == takes.charAt(k);
                    takesFrom(part, takes.substring(0, k) + KINDS.charAt(kind) + takes.substring(k + 1), same ? 0 : 3);
                }
            }
            takesFrom(part, takes + "F", takes.endsWith("FF") || takes.equals("F") ? 0 : 3);
            if (takes.contains("L") || takes.contains("D")) {
                takesFrom(part, takes.replaceAll("[LD]", "II"), 3);
            }
        }
    }

    private static void takesFrom(String[] part, String stack, int fault) {
        int at = stack.length();
        int code = Integer.parseInt(part[0]);
        int a = part[1].equals("N") ? at + 1 : Integer.parseInt(part[1]);
        int[] operation = op(code, a, Integer.parseInt(part[2]));
        SeldomOps x = Programs.single(code == 34 ? a : 5, Programs.row(Programs.pushes(stack), operation, LEAVE));
        x.constant(0);
        x.table(true, 0, at + 1);
        // Behind what goes nowhere, and is of another RESULT than 5, nothing is reached.
        R.judgedAs("3: " + String.join(" ", part) + " from " + stack, x, 0, fault, at);
    }

    /** "35 (its ARGUMENTS -> its RESULT)" */
    private static void whatCallsTake() {
        for (String takes : new String[] {"", "I", "L", "ILFDT", "TDLI", "LDLD", "IIIIIIII"}) {
            takesForCall(takes, takes, 0);
            takesForCall(takes, "T" + takes, 0);
            for (int k = 0; k < takes.length(); k++) {
                takesForCall(takes, takes.substring(k + 1), 3);
                char other = takes.charAt(k) == 'I' ? 'F' : 'I';
                takesForCall(takes, takes.substring(0, k) + other + takes.substring(k + 1), 3);
            }
        }
    }

    private static void takesForCall(String takes, String stack, int fault) {
        SeldomOps x = Programs.single(5, Programs.row(Programs.pushes(stack), op(35, 1), LEAVE));
        x.constant(0);
        x.method(5);
        for (char kind : takes.toCharArray()) {
            x.argument(1, KINDS.indexOf(kind));
        }
        R.judgedAs("3: 35 of " + takes + " from " + stack, x, 0, fault, stack.length());
    }

    /** "5 the LOCAL is not of that KIND (5; 7: no INT)", of each LOCAL, with ARGUMENTS I L F D T in the first seven. */
    private static void localsOfThatKind() {
        String locals = "IL.FD.T.........";
        for (int j = 0; j < 16; j++) {
            for (int kind = 0; kind < 5; kind++) {
                boolean there = locals.charAt(j) == KINDS.charAt(kind);
                int fault = there ? 0 : j + Programs.width(kind) > 16 ? 7 : 5;
                R.judgedAs("5: LOCAL " + j + " as " + kind, withAllKinds(op(5, j, kind)), 0, fault, 0);
            }
            R.judgedAs("5: 7 of LOCAL " + j, withAllKinds(op(7, j, 1)), 0, j == 0 ? 0 : 5, 0);
        }
    }

    private static SeldomOps withAllKinds(int[] operation) {
        SeldomOps x = new SeldomOps();
        Programs.method(x, 5, new int[] {0, 1, 2, 3, 4}, operation, LEAVE);
        return x;
    }

    /** "8 of 34: in a METHOD with another RESULT than the KIND a (0 to 5)" */
    private static void resultsOfThatKind() {
        for (int result = 0; result <= 5; result++) {
            for (int a = 0; a <= 5; a++) {
                String push = a == 5 ? "" : KINDS.substring(a, a + 1);
                SeldomOps x = Programs.single(result, Programs.row(Programs.pushes(push), op(34, a)));
                x.constant(0);
                R.judgedAs("8: " + a + " in a METHOD of " + result, x, 0, a == result ? 0 : 8, push.length());
            }
        }
    }

    /** "4 the STACK would have more than 12 WORDS": {code, a, b, WORDS it needs, WORDS more behind it}. */
    private static void twelveWords() {
        int[][] growing = {
            {0, 0, 0, 0, 1}, {1, 0, 0, 0, 2}, {2, 0, 0, 0, 1}, {3, 0, 0, 0, 2}, {4, 0, 0, 0, 1}, {10, 0, 0, 1, 1},
            {11, 0, 0, 2, 1}, {12, 0, 0, 3, 1}, {13, 0, 0, 2, 2}, {14, 0, 0, 3, 2}, {15, 0, 0, 4, 2}, {18, 4, 0, 1, 1},
            {30, 0, 0, 0, 1}, {5, 0, 0, 0, 1}, {5, 1, 1, 0, 2}, {5, 3, 2, 0, 1}, {5, 4, 3, 0, 2}, {5, 6, 4, 0, 1},
            {16, 0, 0, 2, 0}, {17, 11, 0, 1, 0}, {18, 0, 0, 1, 0}, {7, 0, 1, 0, 0}, {24, 8, 1, 1, 0},
        };
        for (int[] o : growing) {
            for (int words = Math.max(o[3], 10); words <= 12; words++) {
                SeldomOps x = new SeldomOps();
                x.constant(0);
                Programs.method(x, 5, new int[] {0, 1, 2, 3, 4}, Programs.row(Programs.times(words, 0, 1), o, LEAVE));
                int fault = words + o[4] > 12 ? 4 : 0;
                R.judgedAs("4: " + o[0] + " on " + words + " WORDS", x, 0, fault, words);
            }
        }
        SeldomOps x = Runs.withConstant(0, 5, Programs.row(Programs.pushes("LDLDLTI"), op(25, 0, 1), LEAVE));
        R.judgedAs("4: a cell for a THING and an INT", x, 0, 0, 0);
        SeldomOps y = Runs.withConstant(0, 5, Programs.row(Programs.pushes("LDLDLD"), op(19, 3), LEAVE));
        R.judgedAs("3: not such on 12 WORDS", y, 0, 3, 6);
    }

    private static void twelveWordsByCalls() {
        int[][] results = {{0, 1}, {1, 2}, {2, 1}, {3, 2}, {4, 1}, {5, 0}};
        for (int[] result : results) {
            for (int arguments = 0; arguments <= 2; arguments++) {
                for (int words = 10; words <= 12; words++) {
                    SeldomOps x = Programs.single(5, Programs.row(Programs.times(words, 0, 1), op(35, 1), LEAVE));
                    x.method(result[0]);
                    for (int k = 0; k < arguments; k++) {
                        x.argument(1, 0);
                    }
                    int fault = words - arguments + result[1] > 12 ? 4 : 0;
                    R.judgedAs("4: 35 on " + words + " less " + arguments + " for " + result[0], x, 0, fault, words);
                }
            }
        }
    }

    /** "1 there is no next OPERATION where it may go on so" */
    private static void noNextOperation() {
        for (String row : TAKES) {
            String[] part = row.split(" ");
            int code = Integer.parseInt(part[0]);
            int at = part[3].length();
            int a = part[1].equals("N") ? 0 : Integer.parseInt(part[1]);
            SeldomOps x = Programs.single(code == 34 ? a : 5,
                Programs.row(Programs.pushes(part[3]), op(code, a, Integer.parseInt(part[2]))));
            x.constant(0);
            x.table(false, 0, 0);
            boolean goesOn = code != 23 && code != 31 && code != 34;
            R.judgedAs("1: behind " + row, x, 0, goesOn ? 1 : 0, at);
        }
        for (int code : new int[] {0, 1, 2, 3, 4, 30}) {
            R.faultIs("1: behind " + code, 1, 0, 5, op(code));
        }
        for (int code = 8; code <= 16; code++) {
            R.faultIs("1: behind " + code, 1, 4, 5, Programs.row(Programs.pushes("IIII"), op(code)));
        }
        SeldomOps x = new SeldomOps();
        Programs.method(x, 5, new int[] {0}, op(5, 0, 0), op(7, 0, 1));
        R.judgedAs("1: behind 7", x, 0, 1, 1);
        R.faultIs("1: behind 35", 1, 0, 5, op(35, 0));
        R.faultIs("1: 20 goes to its target alone", 0, 0, 5, op(20, 0));
        R.faultIs("1: behind 34 of nothing", 0, 0, 5, LEAVE);
    }

    /** "FAULT 1 at 0, if there are no OPERATIONS", and at the last of 60. */
    private static void noOperations() {
        SeldomOps x = new SeldomOps();
        for (int m = 0; m < 8; m++) {
            x.method(5);
        }
        R.judgedAs("1: no OPERATIONS", x, 0, 1, 0);
        R.judgedAs("1: no OPERATIONS in the last METHOD", x, 7, 1, 0);
        Programs.add(x, 7, Programs.times(60, 20, 59));
        R.judgedAs("60 OPERATIONS", x, 7, 0, 0);
        x.alter(7, 59, 30, 0, 0);
        R.judgedAs("1: behind the last of 60", x, 7, 1, 59);
    }

    /** "if the STACKS are unlike: FAULT 6 there": one KIND by the next one, another by the target. */
    private static void unlikeStacks() {
        String[] stacks = {"", "I", "L", "F", "D", "T", "II", "IF", "FI", "LI", "IL"};
        for (String one : stacks) {
            for (String other : stacks) {
                int join = 5 + one.length() + other.length();
                int[][] first = Programs.row(new int[][] {op(0, 0), op(21, 3 + one.length(), 0)}, Programs.pushes(one));
                int[][] second = Programs.row(new int[][] {op(20, join), op(4), op(8)}, Programs.pushes(other));
                SeldomOps x = Programs.single(5, Programs.row(Programs.row(first, second), LEAVE));
                x.constant(0);
                R.judgedAs("6: " + one + " and " + other, x, 0, one.equals(other) ? 0 : 6, join);
                C.due("6: the SHAPE that came first stays", x.shape(0, join, -1), words(one));
            }
        }
    }

    private static int words(String kinds) {
        return kinds.replaceAll("[LD]", "Ll").length();
    }

    /** A HANDLER comes with "the STACK of one THING", and where others come must be the same. */
    private static void stacksOfHandlers() {
        for (String stack : new String[] {"", "I", "T", "TT", "IT", "TI", "D", "L"}) {
            int[][] row = Programs.row(Programs.pushes(stack), op(20, stack.length() + 1), LEAVE);
            SeldomOps x = Programs.single(5, row);
            x.constant(0);
            x.handler(0, stack.length(), stack.length() + 1, stack.length() + 1, 5);
            R.judgedAs("6: a HANDLER where " + stack + " comes", x, 0, stack.equals("T") ? 0 : 6, stack.length() + 1);
        }
        SeldomOps x = Programs.single(5, op(4), op(31));
        x.handler(0, 1, 2, 1, -1);
        R.judgedAs("a HANDLER that covers its target", x, 0, 0, 0);
        x.handler(0, 0, 1, 0, -1);
        R.judgedAs("6: a HANDLER that goes to where nothing is", x, 0, 6, 0);
    }

    /** "FAULTS at an OPERATION, the first": of two that it has the one that is told ahead. */
    private static void theFirstFault() {
        int[][] twelve = Programs.times(12, 0, 1);
        R.faultIs("7 ahead of 2", 7, 0, 5, op(22, 9, 2), LEAVE);
        R.faultIs("7 ahead of 3", 7, 0, 5, op(6, 16, 0), LEAVE);
        R.faultIs("7 ahead of 5", 7, 0, 5, op(5, 16, 0), LEAVE);
        R.faultIs("7 ahead of 3 and 8", 7, 0, 0, op(34, 6), LEAVE);
        R.faultIs("7 ahead of 4", 7, 12, 5, Programs.row(twelve, op(30, 16), LEAVE));
        R.faultIs("7 ahead of 1", 7, 0, 5, op(30, 16));
        R.faultIs("2 ahead of 3", 2, 0, 5, op(22, 9, 1), LEAVE);
        R.faultIs("2 ahead of 1", 2, 1, 5, op(4), op(22, 9, 1));
        R.faultIs("3 ahead of 8, by a", 3, 0, 5, op(34, 0));
        R.faultIs("3 ahead of 4", 3, 11, 5, Programs.row(Programs.times(10, 0, 1), op(1, 0), op(10), LEAVE));
        R.faultIs("3 ahead of 1", 3, 0, 5, op(16));
        R.faultIs("5 ahead of 4", 5, 12, 5, Programs.row(twelve, op(5, 0, 4), LEAVE));
        R.faultIs("5 ahead of 1", 5, 0, 5, op(7, 0, 0));
        R.faultIs("4 ahead of 1", 4, 12, 5, Programs.row(twelve, op(4)));
        covered("7 ahead of a HANDLER's 2", 7, op(30, 16));
        covered("a HANDLER's 2 ahead of 3", 2, op(27));
        covered("a HANDLER's 2 ahead of 5", 2, op(5, 0, 0));
        covered("a HANDLER's 2 ahead of 8", 2, op(34, 5));
        covered("a HANDLER's 2 ahead of 1", 2, op(4));
    }

    private static void covered(String what, int fault, int[] operation) {
        SeldomOps x = Programs.single(0, operation);
        x.handler(0, 0, 1, 1, 0);
        R.judgedAs(what, x, 0, fault, 0);
    }
}
