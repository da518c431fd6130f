/** Section 3 of the document, with promises 11 to 14: SHAPES, how ways bring them together, and what is told of them. */
public final class BoundsOfShapesTest {
    private static final Checks C = new Checks();
    private static final Runs R = new Runs(C);
    private static final int NONE = SeldomOps.NONE, BAD = SeldomOps.BAD;
    private static final int LEAST = Integer.MIN_VALUE, MOST = Integer.MAX_VALUE;
    private static final int[] NO_ARGUMENTS = {};
    private static final int[] LEAVE = {34, 5};

    public static void main(String[] args) {
        shapeOfArguments();
        wordsOnTheStack();
        storedBesideAndOver();
        storedAtBothEnds();
        likeLocalsStay();
        unlikeLocals();
        halvesThatAreLeft();
        nothingToUseStays();
        joinedAgainAndAgain();
        handlersSeeWhatWasAhead();
        handlersOfEveryNumber();
        ownFaultsFirst();
        handlersAheadOfWays();
        targetAheadOfNext();
        entriesAheadOfOther();
        leastFirst();
        whereItGoesOn();
        answersOfJudge();
        latestFault();
        goodOrNot();
        numbersOfShape();
        shapesThatAreNone();
        shapesAsFarAsItCame();
        C.finish();
    }

    private static int[] op(int... o) {
        return o;
    }

    /** "OPERATION 0 has the SHAPE of the ARGUMENTS, the STACK empty", "nothing is in the others". */
    private static void shapeOfArguments() {
        int[][] arguments = {{}, {0}, {1}, {4, 3}, {0, 1, 2, 3, 4, 0}, {1, 3, 1, 3}, {2, 2, 2, 2, 2, 2, 2, 2},
            {0, 3, 3, 3, 4}};
        int[][] locals = {
            {}, {0}, {1, 6}, {4, 3, 7}, {0, 1, 6, 2, 3, 7, 4, 0}, {1, 6, 3, 7, 1, 6, 3, 7}, {2, 2, 2, 2, 2, 2, 2, 2},
            {0, 3, 7, 3, 7, 3, 7, 4},
        };
        for (int row = 0; row < arguments.length; row++) {
            SeldomOps x = new SeldomOps();
            Programs.method(x, 5, arguments[row], LEAVE);
            R.judgedAs("ARGUMENTS", x, 0, 0, 0);
            R.stackIs("empty", x, 0);
            R.localsAre("ARGUMENTS " + row, x, 0, 0, locals[row]);
            for (int j = locals[row].length; j < 16; j++) {
                R.localsAre("nothing behind ARGUMENTS " + row, x, 0, j, 5);
            }
        }
    }

    /** "0 INT, 2 FLOAT, 4 THING, 1, 3 the first, 6, 7 the second WORD of a LONG, DOUBLE" */
    private static void wordsOnTheStack() {
        SeldomOps x = Runs.withConstant(0, 5, Programs.row(Programs.pushes("ILFDTLDI"), op(20, 9), LEAVE));
        R.judgedAs("WORDS", x, 0, 0, 0);
        R.stackIs("none", x, 0);
        R.stackIs("one", x, 1, 0);
        R.stackIs("three", x, 2, 0, 1, 6);
        R.stackIs("twelve", x, 9, 0, 1, 6, 2, 3, 7, 4, 1, 6, 3, 7, 0);
        C.due("the last WORD of 12", x.shape(0, 9, 11), 0);
        C.due("no WORD behind 11", x.shape(0, 8, 11), 0);
        C.due("behind the uppermost", x.shape(0, 7, 11), NONE);
        C.due("the uppermost", x.shape(0, 7, 10), 7);
    }

    /** A METHOD with LOCALS 4 to 9 as three wide values, into which one more value is stored. */
    private static SeldomOps stored(int place, int kind) {
        SeldomOps x = Runs.withConstant(0, 5, op(1), op(6, 4, 1), op(3), op(6, 6, 3), op(1), op(6, 8, 1), op(kind),
            op(6, place, kind), LEAVE);
        R.judgedAs("stored", x, 0, 0, 0);
        R.localsAre("ahead", x, 6, 3, 5, 1, 6, 3, 7, 1, 6, 5);
        return x;
    }

    /** "STORING into LOCALS makes 5 of the other WORD of a value of which one is overwritten." */
    private static void storedBesideAndOver() {
        R.localsAre("INT just below", stored(3, 0), 8, 3, 0, 1, 6, 3, 7, 1, 6, 5);
        R.localsAre("FLOAT over a first", stored(4, 2), 8, 3, 5, 2, 5, 3, 7, 1, 6, 5);
        R.localsAre("THING over a second", stored(5, 4), 8, 3, 5, 5, 4, 3, 7, 1, 6, 5);
        R.localsAre("INT over a DOUBLE's first", stored(6, 0), 8, 3, 5, 1, 6, 0, 5, 1, 6, 5);
        R.localsAre("INT over a DOUBLE's second", stored(7, 0), 8, 3, 5, 1, 6, 5, 0, 1, 6, 5);
        R.localsAre("INT just above", stored(10, 0), 8, 3, 5, 1, 6, 3, 7, 1, 6, 0);
        R.localsAre("LONG just below", stored(2, 1), 8, 2, 1, 6, 1, 6, 3, 7, 1, 6);
        R.localsAre("LONG over nothing and a first", stored(3, 1), 8, 3, 1, 6, 5, 3, 7, 1, 6, 5);
        R.localsAre("LONG over a LONG", stored(4, 1), 8, 3, 5, 1, 6, 3, 7, 1, 6, 5);
        R.localsAre("LONG over a second and a first", stored(5, 1), 8, 3, 5, 5, 1, 6, 5, 1, 6, 5);
        R.localsAre("LONG over a DOUBLE", stored(6, 1), 8, 3, 5, 1, 6, 1, 6, 1, 6, 5);
        R.localsAre("DOUBLE over a second and a first", stored(7, 3), 8, 3, 5, 1, 6, 5, 3, 7, 5, 5);
        R.localsAre("DOUBLE over a second and nothing", stored(9, 3), 8, 3, 5, 1, 6, 3, 7, 5, 3, 7);
        R.localsAre("LONG just above", stored(10, 1), 8, 3, 5, 1, 6, 3, 7, 1, 6, 1, 6);
    }

    private static void storedAtBothEnds() {
        SeldomOps x = Runs.withConstant(0, 5, op(1), op(6, 0, 1), op(3), op(6, 14, 3), op(0), op(6, 0, 0), op(0),
            op(6, 15, 0),
            op(1), op(6, 14, 1), LEAVE);
        R.judgedAs("at both ends", x, 0, 0, 0);
        R.localsAre("LONG at 0", x, 4, 0, 1, 6, 5);
        R.localsAre("DOUBLE at 14", x, 4, 13, 5, 3, 7);
        R.localsAre("INT at 0", x, 6, 0, 0, 5, 5);
        R.localsAre("INT at 15", x, 8, 13, 5, 5, 0);
        R.localsAre("LONG at 14", x, 10, 13, 5, 1, 6);
        for (int wide : new int[] {1, 3}) {
            SeldomOps y = Runs.withConstant(0, 5, op(wide), op(6, 0, wide), op(0), op(6, 1, 0), LEAVE);
            R.judgedAs("over the second of the first two", y, 0, 0, 0);
            R.localsAre("over the second of the first two", y, 4, 0, 5, 0, 5);
        }
    }

    /** Stores by the next one, stores by the target; both ways come to one OPERATION, whose number is told. */
    private static int join(SeldomOps x, int[][] first, int[][] second) {
        int m = x.method(5);
        x.constant(0);
        int at = 3 + first.length + second.length;
        Programs.add(x, m, op(0, 0), op(21, 3 + first.length, 0));
        Programs.add(x, m, first);
        Programs.add(x, m, op(20, at));
        Programs.add(x, m, second);
        Programs.add(x, m, op(4), LEAVE);
        R.judgedAs("two ways", x, m, 0, 0);
        return at;
    }

    private static int[][] storing(int... kindsAndPlaces) {
        int[][] row = new int[kindsAndPlaces.length][];
        for (int k = 0; k < row.length; k += 2) {
            row[k] = op(kindsAndPlaces[k], 0);
            row[k + 1] = op(6, kindsAndPlaces[k + 1], kindsAndPlaces[k]);
        }
        return row;
    }

    private static void joined(String what, int[][] first, int[][] second, int from, int... locals) {
        SeldomOps x = new SeldomOps();
        int at = join(x, first, second);
        R.localsAre(what, x, at, from, locals);
        R.localsAre(what + ", behind", x, at + 1, from, locals);
        SeldomOps y = new SeldomOps();
        R.localsAre(what + ", the other way round", y, join(y, second, first), from, locals);
    }

    private static void likeLocalsStay() {
        int[] first = {0, 1, 2, 3, 4};
        int[][] words = {{0, 5}, {1, 6}, {2, 5}, {3, 7}, {4, 5}};
        for (int kind : first) {
            joined("both of KIND " + kind, storing(kind, 0), storing(kind, 0), 0, words[kind]);
            joined("both of KIND " + kind, storing(kind, 14), storing(kind, 14), 14, words[kind]);
        }
        joined("both of many", storing(1, 3, 3, 5, 0, 7), storing(0, 7, 3, 5, 1, 3), 2, 5, 1, 6, 3, 7, 0, 5);
    }

    /** "Else LOCALS that are unlike become 5" */
    private static void unlikeLocals() {
        for (int one = 0; one < 5; one++) {
            for (int other = 0; other < 5; other++) {
                if (one != other) {
                    joined(one + " and " + other, storing(0, 2, one, 3, 0, 5), storing(0, 2, other, 3, 0, 5), 2, 0, 5, 5, 0);
                }
            }
            joined(one + " and nothing", storing(one, 3), storing(4, 9), 3, 5, 5);
        }
        joined("in LOCAL 0 only", storing(0, 0, 2, 1), storing(2, 0, 2, 1), 0, 5, 2, 5);
        joined("in LOCAL 15 only", storing(2, 14, 0, 15), storing(2, 14, 2, 15), 13, 5, 2, 5);
    }

    /** "(a second or first WORD, too, whose other one is not there any more)" */
    private static void halvesThatAreLeft() {
        joined("a second overwritten", storing(1, 3), storing(1, 3, 0, 4), 2, 5, 5, 5, 5);
        joined("a first overwritten", storing(1, 3), storing(1, 3, 0, 3), 2, 5, 5, 5, 5);
        joined("a DOUBLE's second", storing(3, 14), storing(3, 14, 4, 15), 13, 5, 5, 5);
        joined("a DOUBLE's first", storing(3, 0), storing(3, 0, 4, 0), 0, 5, 5, 5);
        joined("one place on", storing(1, 3), storing(1, 4), 2, 5, 5, 5, 5, 5);
        joined("one place on, DOUBLES", storing(3, 3), storing(3, 4), 2, 5, 5, 5, 5, 5);
        joined("what lies beside stays", storing(1, 1, 1, 3, 1, 5), storing(1, 1, 1, 5, 0, 4), 1, 1, 6, 5, 5, 1, 6);
    }

    private static void nothingToUseStays() {
        joined("nothing on both ways", storing(0, 4), storing(0, 4), 3, 5, 0, 5);
        SeldomOps x = new SeldomOps();
        // A third way brings the INT of the first one; what became 5 stays so.
        Programs.method(x, 5, new int[] {0}, op(5, 0, 0), op(21, 7, 0), op(2), op(6, 0, 2), op(20, 8), op(4), LEAVE,
            op(20, 8), op(4), LEAVE);
        R.judgedAs("5 stays", x, 0, 0, 0);
        R.localsAre("5 stays", x, 8, 0, 5);
        R.localsAre("5 goes on", x, 9, 0, 5);
    }

    /** "if that changes something, it is other": by eight ways back, each of which spoils one more LOCAL. */
    private static void joinedAgainAndAgain() {
        SeldomOps x = new SeldomOps();
        x.table(false, 0, 2);
        Programs.method(x, 5, new int[] {0, 0, 0, 0, 0, 0, 0, 0}, op(0, 0), op(23, 0), LEAVE);
        for (int j = 0; j < 8; j++) {
            R.judgedAs("spoilt below " + j, x, 0, 0, 0);
            for (int k = 0; k < 8; k++) {
                R.localsAre("spoilt below " + j, x, 2, k, k < j ? 5 : 0);
            }
            Programs.add(x, 0, op(2, 0), op(6, j, 2), op(20, 0));
            x.entry(0, j, 3 + 3 * j);
        }
        R.judgedAs("all spoilt", x, 0, 0, 0);
        R.localsAre("all spoilt", x, 0, 0, 5, 5, 5, 5, 5, 5, 5, 5);
        R.localsAre("all spoilt behind it", x, 2, 0, 5, 5, 5, 5, 5, 5, 5, 5);
        R.localsAre("all spoilt but the last", x, 26, 0, 5, 5, 5, 5, 5, 5, 5, 2);
        x.alter(0, 2, 7, 7, 1);
        R.judgedAs("not to be used", x, 0, 5, 2);
    }

    /** "its SHAPE, as it was ahead of it, goes with the STACK of one THING" */
    private static void handlersSeeWhatWasAhead() {
        SeldomOps x = Programs.single(5, op(0), op(2), op(6, 3, 2), op(0), op(4), op(20, 4), op(31));
        x.alter(0, 5, 34, 5, 0);
        x.handler(0, 2, 3, 6, 0);
        R.judgedAs("covers the store", x, 0, 0, 0);
        R.stackIs("covers the store", x, 6, 4);
        R.localsAre("not yet stored", x, 6, 3, 5);
        R.localsAre("stored", x, 3, 3, 2);
        SeldomOps y = Programs.single(5, op(0), op(2), op(6, 3, 2), op(0), op(4), LEAVE, op(31));
        y.handler(0, 3, 4, 6, 0);
        R.judgedAs("covers what is behind the store", y, 0, 0, 0);
        R.localsAre("stored there", y, 6, 3, 2);
        y.handler(0, 2, 3, 6, 0);
        R.judgedAs("covers both", y, 0, 0, 0);
        R.localsAre("on one way only", y, 6, 3, 5);
    }

    /** A HANDLER's number does not count: each that covers it is gone to. */
    private static void handlersOfEveryNumber() {
        for (int number = -1; number <= 15; number++) {
            SeldomOps x = Programs.single(5, op(0), LEAVE, op(31));
            x.handler(0, 0, 1, 2, number);
            R.judgedAs("for " + number, x, 0, 0, 0);
            R.stackIs("for " + number, x, 2, 4);
        }
        SeldomOps x = Programs.single(5, op(0), LEAVE, op(31));
        x.handler(0, 0, 0, 2, -1);
        R.judgedAs("covers nothing", x, 0, 0, 0);
        C.due("no SHAPE by what covers nothing", x.shape(0, 2, -1), NONE);
    }

    /** OPERATIONS 4 and 8 have SHAPES without WORDS when 7 is done, with an INT below what it takes. */
    private static SeldomOps meeting(int[] seventh, int... handlerTargets) {
        SeldomOps x = Programs.single(5, op(0), op(21, 8, 0), op(0), op(21, 5, 0), LEAVE, op(0), op(0), seventh, LEAVE,
            op(8), LEAVE);
        x.table(false, 0, 4);
        for (int target : handlerTargets) {
            x.handler(0, 7, 8, target, 0);
        }
        return x;
    }

    /** "its own FAULTS are looked at; then ..": a FAULT of its own ahead of FAULT 6 elsewhere. */
    private static void ownFaultsFirst() {
        R.judgedAs("7 ahead of 6", meeting(op(21, 4, 6)), 0, 7, 7);
        R.judgedAs("2 ahead of 6", meeting(op(21, 11, 0), 4), 0, 2, 7);
        R.judgedAs("3 ahead of a HANDLER's 6", meeting(op(22, 4, 0), 4), 0, 3, 7);
        R.judgedAs("5 ahead of a HANDLER's 6", meeting(op(5, 0, 0), 4), 0, 5, 7);
        SeldomOps x = Programs.single(5, op(4), op(8), op(0));
        x.handler(0, 2, 3, 0, 0);
        R.judgedAs("1 ahead of a HANDLER's 6", x, 0, 1, 2);
    }

    /** ".. goes .. to the target of each HANDLER, in order, ..; then the SHAPE behind it" */
    private static void handlersAheadOfWays() {
        R.judgedAs("no HANDLER", meeting(op(21, 4, 0)), 0, 6, 4);
        R.judgedAs("a HANDLER ahead of a target", meeting(op(21, 4, 0), 8), 0, 6, 8);
        R.judgedAs("a HANDLER that meets nothing", meeting(op(21, 4, 0), 9), 0, 6, 4);
        R.judgedAs("HANDLERS in order", meeting(op(21, 10, 0), 4, 8), 0, 6, 4);
        R.judgedAs("HANDLERS in order", meeting(op(21, 10, 0), 8, 4), 0, 6, 8);
        R.judgedAs("HANDLERS in order", meeting(op(21, 10, 0), 9, 9, 9, 9, 8, 4), 0, 6, 8);
    }

    /** "by 20 to 22 the target first, then the next one" */
    private static void targetAheadOfNext() {
        R.judgedAs("21: the target", meeting(op(21, 4, 0)), 0, 6, 4);
        R.judgedAs("21: then the next one", meeting(op(21, 9, 0)), 0, 6, 8);
        R.judgedAs("20: the target alone", meeting(op(20, 9)), 0, 0, 0);
        R.judgedAs("20: the target", meeting(op(20, 4)), 0, 6, 4);
        SeldomOps x = meeting(op(22, 4, 0));
        x.alter(0, 6, 4, 0, 0);
        R.judgedAs("22: the target", x, 0, 6, 4);
        x.alter(0, 7, 22, 9, 1);
        R.judgedAs("22: then the next one", x, 0, 6, 8);
    }

    /** "by 23 the entries' targets, in order, then the other one" */
    private static void entriesAheadOfOther() {
        int[][] rows = {{4}, {4, 8}, {8, 4}, {8}, {9, 8}, {9, 9, 4}, {9, 9, 9, 9, 9, 9, 9, 8}, {}};
        int[] due = {4, 4, 8, 8, 8, 4, 8, 4};
        for (int row = 0; row < rows.length; row++) {
            SeldomOps x = meeting(op(23, 0));
            for (int e = 0; e < rows[row].length; e++) {
                x.entry(0, e, rows[row][e]);
            }
            R.judgedAs("entries " + row, x, 0, 6, due[row]);
        }
        SeldomOps x = meeting(op(23, 1));
        x.table(true, 0, 9);
        R.judgedAs("the next one is no way of 23", x, 0, 0, 0);
    }

    /** "the least OPERATION is done whose SHAPE is new or other" */
    private static void leastFirst() {
        R.faultIs("new ones", 3, 2, 5, op(0), op(21, 3, 0), op(8), op(8));
        R.faultIs("new ones, the other way round", 3, 3, 5, op(0), op(21, 3, 0), op(20, 4), op(8), op(8));
        SeldomOps x = new SeldomOps();
        Programs.method(x, 5, new int[] {0}, op(5, 0, 0), op(21, 5, 0), op(2), op(6, 0, 2), op(20, 0), op(8));
        R.judgedAs("0 is other ahead of 5, which is new", x, 0, 5, 0);
        C.due("5 has a SHAPE", x.shape(0, 5, -1), 0);
        x.alter(0, 3, 6, 1, 2);
        R.judgedAs("0 is not other", x, 0, 3, 5);
    }

    /** "by 31, 34 nowhere; else the next one" */
    private static void whereItGoesOn() {
        int[][] ending = {{31}, {34, 5}, {20, 0}, {23, 0}};
        for (int[] last : ending) {
            String push = last[0] == 31 ? "T" : last[0] == 23 ? "I" : "";
            SeldomOps x = R.faultIs("behind " + last[0], 0, 0, 5, Programs.row(Programs.pushes(push), last, op(8)));
            C.due("behind " + last[0], x.shape(0, push.length() + 1, -1), NONE);
            C.due("a LOCAL behind " + last[0], x.shape(0, push.length() + 1, -2), NONE);
        }
        SeldomOps x = R.faultIs("21", 0, 0, 5, op(0), op(21, 3, 0), LEAVE, LEAVE);
        C.due("the next one", x.shape(0, 2, -1), 0);
        C.due("the target", x.shape(0, 3, -1), 0);
    }

    /** "A METHOD is judged: 0; -10 less the FAULT." */
    private static void answersOfJudge() {
        C.due("0", Programs.single(5, LEAVE).judge(0), 0);
        C.due("FAULT 1", Programs.single(5).judge(0), -11);
        C.due("FAULT 2", Programs.single(5, op(20, 1)).judge(0), -12);
        C.due("FAULT 3", Programs.single(5, op(8)).judge(0), -13);
        C.due("FAULT 4", Programs.single(5, Programs.times(13, 0)).judge(0), -14);
        C.due("FAULT 5", Programs.single(5, op(5, 0, 0)).judge(0), -15);
        C.due("FAULT 6", Programs.single(5, op(0), op(20, 0)).judge(0), -16);
        C.due("FAULT 7", Programs.single(5, op(1)).judge(0), -17);
        C.due("FAULT 8", Programs.single(0, LEAVE).judge(0), -18);
        SeldomOps x = Programs.single(5, op(8));
        C.due("judged again", x.judge(0), -13);
        C.due("judged again", x.judge(0), -13);
    }

    /** "Of the latest judge() with a FAULT: 0 its METHOD, 1 the OPERATION; NONE before any. BAD." */
    private static void latestFault() {
        SeldomOps x = new SeldomOps();
        for (int m = 0; m < 8; m++) {
            Programs.method(x, 5, NO_ARGUMENTS, Programs.times(m == 7 ? 59 : 1, 20, 0));
            x.alter(m, 0, m == 7 ? 20 : 34, m == 7 ? 58 : 5, 0);
        }
        faultsAre("before any", x, NONE, NONE);
        x.judge(0);
        x.judge(8);
        faultsAre("behind one without FAULT, and a refused one", x, NONE, NONE);
        x.alter(7, 58, 20, 59, 0);
        C.due("a FAULT in the last METHOD", x.judge(7), -12);
        faultsAre("in the last METHOD", x, 7, 58);
        x.judge(0);
        faultsAre("stays behind one without FAULT", x, 7, 58);
        x.alter(7, 58, 34, 5, 0);
        x.method(0);
        faultsAre("stays when it is told otherwise", x, 7, 58);
        C.due("no FAULT any more", x.judge(7), 0);
        faultsAre("stays when it has none any more", x, 7, 58);
        x.alter(0, 0, 8, 0, 0);
        C.due("another one", x.judge(0), -13);
        faultsAre("the latest one", x, 0, 0);
    }

    private static void faultsAre(String what, SeldomOps x, int method, int operation) {
        C.due(what + ": fault(0)", x.fault(0), method);
        C.due(what + ": fault(1)", x.fault(1), operation);
        for (int other : new int[] {-1, 2, LEAST, MOST}) {
            C.due(what + ": fault(" + other + ")", x.fault(other), BAD);
        }
    }

    /** "1: GOOD, 0: not. BAD." */
    private static void goodOrNot() {
        SeldomOps x = new SeldomOps();
        Programs.method(x, 5, NO_ARGUMENTS, LEAVE);
        Programs.method(x, 5, NO_ARGUMENTS, op(8));
        C.due("not judged", x.good(0), 0);
        x.judge(0);
        C.due("judged without FAULT", x.good(0), 1);
        SeldomOps y = new SeldomOps();
        y.method(5);
        C.due("just told", y.good(0), 0);
        C.due("just told, so no WALK", y.walk(0, 9), SeldomOps.NO);
        C.due("another one", x.good(1), 0);
        x.judge(1);
        C.due("judged with a FAULT", x.good(1), 0);
        C.due("another's FAULT", x.good(0), 1);
        x.alter(1, 0, 34, 5, 0);
        C.due("told of another one", x.good(0), 0);
        x.judge(1);
        C.due("not judged since", x.good(0), 0);
        C.due("judged since", x.good(1), 1);
    }

    /** "BAD: i is no OPERATION; k is not -17 .. 11." */
    private static void numbersOfShape() {
        for (int operations : new int[] {1, 60}) {
            SeldomOps x = Programs.single(5, Programs.times(operations, 34, 5));
            R.judgedAs("numbers of shape", x, 0, 0, 0);
            for (int i : new int[] {-1, operations, LEAST, MOST}) {
                C.due("OPERATION " + i + " of " + operations, x.shape(0, i, -1), BAD);
            }
            C.due("the first", x.shape(0, 0, -1), 0);
            C.due("the last", x.shape(0, operations - 1, -1), operations == 1 ? 0 : NONE);
            for (int k : new int[] {-18, 12, LEAST, MOST}) {
                C.due("WORD " + k, x.shape(0, 0, k), BAD);
                C.due("WORD " + k + " without a SHAPE", x.shape(0, operations - 1, k), BAD);
            }
            C.due("LOCAL 15", x.shape(0, 0, -17), 5);
            C.due("LOCAL 0", x.shape(0, 0, -2), 5);
            C.due("the lowest WORD", x.shape(0, 0, 0), NONE);
            C.due("the uppermost WORD", x.shape(0, 0, 11), NONE);
            x.method(5);
            C.due("BAD, too, when something was told", x.shape(0, operations, -1), BAD);
            C.due("BAD, too, when something was told", x.shape(0, 0, 12), BAD);
            C.due("no OPERATIONS", x.shape(1, 0, -1), BAD);
        }
    }

    /** "NONE: the OPERATION has no SHAPE, the STACK no such WORD, or something was told since." */
    private static void shapesThatAreNone() {
        SeldomOps x = new SeldomOps();
        Programs.method(x, 5, new int[] {0}, op(0), LEAVE, op(4), LEAVE);
        Programs.method(x, 5, NO_ARGUMENTS, LEAVE);
        C.due("never judged", x.shape(0, 0, -1), NONE);
        C.due("never judged, a LOCAL", x.shape(0, 0, -2), NONE);
        x.judge(1);
        C.due("another one judged", x.shape(0, 0, -1), NONE);
        x.judge(0);
        C.due("judged", x.shape(0, 0, -1), 0);
        C.due("judged, a LOCAL", x.shape(0, 0, -2), 0);
        C.due("another one's stays", x.shape(1, 0, -1), 0);
        C.due("a WORD", x.shape(0, 1, 0), 0);
        C.due("no such WORD", x.shape(0, 1, 1), NONE);
        C.due("no SHAPE", x.shape(0, 2, -1), NONE);
        C.due("no SHAPE, a WORD", x.shape(0, 2, 0), NONE);
        C.due("no SHAPE, the last LOCAL", x.shape(0, 2, -17), NONE);
        x.constant(0);
        C.due("something was told", x.shape(0, 0, -1), NONE);
        C.due("something was told, a LOCAL", x.shape(1, 0, -2), NONE);
        x.judge(0);
        C.due("judged again", x.shape(0, 1, 0), 0);
        C.due("another one was not", x.shape(1, 0, -1), NONE);
    }

    /** "SHAPES that the latest judge() of a METHOD left (as far as it came)" */
    private static void shapesAsFarAsItCame() {
        SeldomOps x = Programs.single(5, op(0), op(21, 5, 0), op(0), op(9), LEAVE, op(34, 5));
        R.judgedAs("a FAULT at 3", x, 0, 3, 3);
        R.stackIs("where the FAULT is", x, 3, 0);
        C.due("behind it", x.shape(0, 4, -1), NONE);
        R.stackIs("where a way came to ahead of it", x, 5);
        x.alter(0, 3, 8, 0, 0);
        R.judgedAs("none", x, 0, 0, 0);
        R.stackIs("behind it now", x, 4);
        x.alter(0, 1, 9, 0, 0);
        R.judgedAs("a FAULT at 1", x, 0, 3, 1);
        C.due("nothing of an earlier judge()", x.shape(0, 4, -1), NONE);
        nothingIsLeftToBeDone();
        SeldomOps y = Programs.single(5, op(1, 0), LEAVE);
        R.judgedAs("a FAULT at 0", y, 0, 7, 0);
        R.stackIs("0 has a SHAPE", y, 0);
        C.due("1 has none", y.shape(0, 1, -1), NONE);
    }

    /** A FAULT ends judging while 4 was still to be done; the next time no way goes to 4. */
    private static void nothingIsLeftToBeDone() {
        SeldomOps x = Programs.single(5, op(0), op(21, 4, 0), op(8), LEAVE, op(8), LEAVE);
        R.judgedAs("a FAULT at 2", x, 0, 3, 2);
        R.stackIs("4 was still to be done", x, 4);
        x.alter(0, 1, 20, 3, 0);
        R.judgedAs("4 is not gone to", x, 0, 0, 0);
        C.due("4 has no SHAPE", x.shape(0, 4, -1), NONE);
    }
}
