/** Section 4 of the document, with promises 15 to 20: what may be walked, for how long, and what is told of it. */
public final class BoundsOfWalksTest {
    private static final Checks C = new Checks();
    private static final Runs R = new Runs(C);
    private static final int NONE = SeldomOps.NONE, BAD = SeldomOps.BAD, NO = SeldomOps.NO, FULL = SeldomOps.FULL;
    private static final int INT = 0, LONG = 1, FLOAT = 2, DOUBLE = 3, THING = 4;
    private static final int LEAST = Integer.MIN_VALUE, MOST = Integer.MAX_VALUE;
    private static final int[] NO_ARGUMENTS = {};
    private static final int[] LEAVE = {34, 5};

    public static void main(String[] args) {
        eightGiven();
        theFirstEightGiven();
        numbersOfSteps();
        stepsJustEnough();
        stepsOfFailures();
        threeThousandSteps();
        noStepAtAll();
        allMethodsGood();
        asManyGivenAsArguments();
        nothingIsGivenThen();
        badAheadOfNo();
        lowestBitsOfGiven();
        thingsGivenAreNull();
        resultsOfEachKind();
        noResult();
        numbersOfTold();
        toldOfNoWalk();
        toldOfOneThatIsOver();
        toldOfFailures();
        mostWords();
        callsUnderWay();
        numbersOfThing();
        thingsOfTheLatestWalk();
        refusedWalksLeaveTheLatest();
        fiveHundredTwelveCalls();
        C.finish();
    }

    private static int[] op(int... o) {
        return o;
    }

    /** "One more GIVEN: how many. FULL: 8." */
    private static void eightGiven() {
        SeldomOps x = new SeldomOps();
        for (int g = 1; g <= 8; g++) {
            C.due("15: how many", x.give(g), g);
            C.due("15: how many there are", x.count(3), g);
        }
        C.due("15: a ninth", x.give(9), FULL);
        C.due("15: and again", x.give(9), FULL);
        C.due("15: eight there are", x.count(3), 8);
    }

    /** A METHOD of 8 INTS that leaves with one of them. */
    private static SeldomOps withEight(int place) {
        SeldomOps x = new SeldomOps();
        Programs.method(x, INT, new int[] {0, 0, 0, 0, 0, 0, 0, 0}, op(5, place, INT), op(34, INT));
        x.judge(0);
        return x;
    }

    private static void theFirstEightGiven() {
        for (int place = 0; place < 8; place++) {
            SeldomOps x = withEight(place);
            for (int g = 0; g < 10; g++) {
                x.give(100 + g);
            }
            C.due("16: walk", x.walk(0, 9), 0);
            C.due("16: in order", x.value(), 100 + place);
            C.due("15: the first one again", x.give(5), 1);
        }
    }

    /** "of so many STEPS at most (0 .. 3000)" */
    private static void numbersOfSteps() {
        SeldomOps x = Programs.single(5, LEAVE);
        x.judge(0);
        for (int steps : new int[] {-1, 3001, LEAST, MOST}) {
            C.due("16: steps " + steps, x.walk(0, steps), BAD);
        }
        C.due("16: steps 0", x.walk(0, 0), 2);
        C.due("16: steps 1", x.walk(0, 1), 0);
        C.due("16: steps 3000", x.walk(0, 3000), 0);
    }

    /** "2 an OPERATION would begin and no STEP is left" */
    private static void stepsJustEnough() {
        for (int operations = 1; operations <= 12; operations++) {
            SeldomOps x = Programs.single(INT, Programs.row(Programs.times(operations, 0, 7), op(34, INT)));
            x.judge(0);
            for (int steps = 0; steps <= operations + 2; steps++) {
                boolean enough = steps > operations;
                C.due("16: " + steps + " STEPS for " + operations, x.walk(0, steps), enough ? 0 : 2);
                R.toldIs("18: " + steps + " STEPS for " + operations, x, NONE, NONE, NONE,
                    Math.min(steps, operations + 1), 1, 0,
                    Math.min(steps, operations), 0, enough ? 0 : 1);
                C.due("17: value", x.value(), enough ? 7 : 0);
            }
        }
    }

    /** "Each OPERATION begun is a STEP": one that fails, one that CALLS, one that leaves a CALL, too. */
    private static void stepsOfFailures() {
        SeldomOps x = Programs.single(5, op(4), op(31));
        R.walkedFor("one too few", x, 1, 2);
        C.due("18: not failed yet", x.told(0), NONE);
        R.walkedFor("just enough to fail", x, 2, 1);
        C.due("18: STEPS", x.told(3), 2);
        x = Programs.single(THING, op(4), op(31), op(34, THING));
        x.handler(0, 1, 2, 2, 1);
        R.walkedFor("caught, and no STEP is left", x, 2, 2);
        C.due("18: caught", x.told(7), 1);
        R.walkedFor("caught, and left", x, 3, 0);
        x = new SeldomOps();
        Programs.method(x, 5, NO_ARGUMENTS, op(35, 1), LEAVE);
        Programs.method(x, 5, NO_ARGUMENTS, LEAVE);
        int[] answers = {2, 2, 2, 0};
        int[] underWay = {1, 2, 1, 0};
        for (int steps = 0; steps <= 3; steps++) {
            R.walkedFor("CALLS by STEPS", x, steps, answers[steps]);
            C.due("18: under way", x.told(8), underWay[steps]);
            C.due("18: STEPS", x.told(3), steps);
            C.due("18: CALLS made", x.told(4), steps == 0 ? 1 : 2);
        }
    }

    /** 999 rounds of 3 STEPS, with two or more ahead of them and one behind: just 3000 are needed, or more. */
    private static void threeThousandSteps() {
        for (int ahead = 2; ahead <= 5; ahead++) {
            SeldomOps x = new SeldomOps();
            x.method(5);
            Programs.add(x, 0, Programs.times(ahead - 2, 20, 1));
            for (int i = 0; i < ahead - 2; i++) {
                x.alter(0, i, 20, i + 1, 0);
            }
            Programs.add(x, 0, op(0, 999), op(6, 0, INT), op(7, 0, -1), op(5, 0, INT), op(21, ahead, 1), LEAVE);
            boolean enough = ahead + 3 * 999 + 1 <= 3000;
            R.walkedFor("3000 STEPS", x, 3000, enough ? 0 : 2);
            C.due("18: STEPS of " + ahead, x.told(3), enough ? ahead + 2998 : 3000);
        }
    }

    private static void noStepAtAll() {
        SeldomOps x = Programs.single(5, LEAVE);
        R.walkedFor("no STEP", x, 0, 2);
        R.toldIs("no STEP", x, NONE, NONE, NONE, 0, 1, 0, 0, 0, 1);
        C.due("17: no RESULT", x.value(), 0);
    }

    /** "NO: not all METHODS are GOOD" */
    private static void allMethodsGood() {
        for (int count = 1; count <= 8; count += 7) {
            for (int last = 0; last < count; last++) {
                SeldomOps x = new SeldomOps();
                for (int m = 0; m < count; m++) {
                    Programs.method(x, 5, NO_ARGUMENTS, LEAVE);
                }
                for (int m = 0; m < count; m++) {
                    if (m != last) {
                        x.judge(m);
                    }
                }
                C.due("16: all but METHOD " + last, x.walk(0, 9), NO);
                x.judge(last);
                C.due("16: all", x.walk(0, 9), 0);
                x.alter(last, 0, 8, 0, 0);
                for (int m = 0; m < count; m++) {
                    x.judge(m);
                }
                C.due("16: a FAULT in METHOD " + last, x.walk(0, 9), NO);
            }
        }
    }

    /** "or others are GIVEN than as many as it has ARGUMENTS (what is GIVEN stays)" */
    private static void asManyGivenAsArguments() {
        int[][] arguments = {{}, {0}, {1}, {3, 4}, {4, 4, 4}, {1, 1, 3, 3}, {0, 0, 0, 0, 0, 0, 0, 0}};
        for (int[] kinds : arguments) {
            for (int given = 0; given <= 8; given++) {
                SeldomOps x = new SeldomOps();
                Programs.method(x, 5, kinds, LEAVE);
                x.judge(0);
                for (int g = 0; g < given; g++) {
                    x.give(g);
                }
                boolean fits = given == kinds.length;
                C.due("16: " + given + " GIVEN for " + kinds.length, x.walk(0, 9), fits ? 0 : NO);
                C.due("16: GIVEN then", x.count(3), fits ? 0 : given);
            }
        }
    }

    /** "nothing is GIVEN then", whatever it answers. */
    private static void nothingIsGivenThen() {
        int[][] failing = {op(30, 0), op(31)};
        int[][][] rows = {{LEAVE}, failing, {op(20, 0)}};
        for (int answer = 0; answer < 3; answer++) {
            SeldomOps x = new SeldomOps();
            Programs.method(x, 5, new int[] {INT}, rows[answer]);
            R.walkedFor("nothing is GIVEN", x, 5, answer, 7);
            C.due("16: nothing is GIVEN behind " + answer, x.count(3), 0);
            C.due("16: so no other WALK", x.walk(0, 5), NO);
        }
    }

    private static void badAheadOfNo() {
        SeldomOps x = Programs.single(5, LEAVE);
        x.give(1);
        C.due("16: BAD ahead of NO, STEPS", x.walk(0, 3001), BAD);
        C.due("16: BAD ahead of NO, STEPS", x.walk(0, -1), BAD);
        C.due("16: BAD ahead of NO, METHOD", x.walk(1, 5), BAD);
        C.due("16: BAD ahead of NO, METHOD", x.walk(-1, 5), BAD);
        C.due("16: NO", x.walk(0, 3000), NO);
        x.judge(0);
        C.due("16: NO by what is GIVEN", x.walk(0, 0), NO);
    }

    /** "(INTS, FLOATS: the lowest 32 bits ..)", LONGS and DOUBLES all 64. */
    private static void lowestBitsOfGiven() {
        long[] given = {0, MOST, 2147483648L, 4294967295L, 4294967296L, -2147483649L, LEAST, Long.MIN_VALUE,
            Long.MAX_VALUE, -1};
        long[] lowest = {0, MOST, LEAST, -1, 0, MOST, LEAST, 0, -1, -1};
        for (int k = 0; k < given.length; k++) {
            for (int kind = INT; kind <= DOUBLE; kind++) {
                SeldomOps x = new SeldomOps();
                Programs.method(x, kind, new int[] {THING, DOUBLE, kind}, op(5, 3, kind), op(34, kind));
                R.walked("GIVEN", 0, x, 99, -1, given[k]);
                C.due("16: GIVEN as KIND " + kind, x.value(), Programs.width(kind) == 2 ? given[k] : lowest[k]);
            }
        }
    }

    /** "THINGS: null only, the GIVEN does not count" */
    private static void thingsGivenAreNull() {
        for (long bits : new long[] {-1, 0, 1, 4, Long.MIN_VALUE}) {
            SeldomOps x = new SeldomOps();
            Programs.method(x, THING, new int[] {THING}, op(30, 0), op(8), op(5, 0, THING), op(34, THING));
            R.walked("a THING", 0, x, bits);
            C.due("16: null for " + bits, x.value(), NONE);
        }
    }

    /** "its bits (INTS with their sign, FLOATS their 32 bits with sign; a THING's number, NONE)" */
    private static void resultsOfEachKind() {
        for (int bits : new int[] {0, 1, -1, LEAST, MOST, 0x7f800000, 0xff800000}) {
            R.gives("17: an INT", bits, INT, op(0, bits), op(34, INT));
            R.gives("17: a FLOAT", bits, FLOAT, op(2, bits), op(34, FLOAT));
        }
        for (long bits : new long[] {0, -1, Long.MIN_VALUE, Long.MAX_VALUE, 1L << 32}) {
            for (int kind : new int[] {LONG, DOUBLE}) {
                SeldomOps x = R.walked("17", 0, Runs.withConstant(bits, kind, op(kind), op(34, kind)));
                C.due("17: of KIND " + kind, x.value(), bits);
            }
        }
        R.gives("17: THING 0", 0, THING, op(30, 0), op(34, THING));
        R.gives("17: null", NONE, THING, op(4), op(34, THING));
        R.gives("17: THING 59", 59, THING, op(0, 58), op(0, 0), op(24, 16, 2), op(30, 0), op(34, THING));
    }

    /** "if it was over by 34 ..; 0 without" */
    private static void noResult() {
        C.due("17: before any WALK", new SeldomOps().value(), 0);
        SeldomOps x = Programs.single(INT, op(0, 7), op(34, INT));
        C.due("17: a RESULT", R.walked("7", 0, x).value(), 7);
        C.due("17: not over", R.walkedFor("not over", x, 1, 2).value(), 0);
        x.alter(0, 0, 4, 0, 0);
        x.alter(0, 1, 31, 0, 0);
        C.due("17: failed", R.walked("failed", 1, x).value(), 0);
        SeldomOps y = new SeldomOps();
        Programs.method(y, 5, NO_ARGUMENTS, op(35, 1), LEAVE);
        Programs.method(y, INT, NO_ARGUMENTS, op(0, 7), op(34, INT));
        C.due("17: nothing, though one was CALLED with a RESULT", R.walked("nothing", 0, y).value(), 0);
        C.due("16: walk of the other one", y.walk(1, 9), 0);
        C.due("17: the RESULT of the latest WALK", y.value(), 7);
        C.due("16: walk of the first one", y.walk(0, 9), 0);
        C.due("17: nothing again", y.value(), 0);
    }

    /** "BAD" of told(), ahead of "NO: there was none" */
    private static void numbersOfTold() {
        SeldomOps x = Programs.single(5, LEAVE);
        R.bounded("18: what, no WALK", 0, 8, NO, BAD, x::told);
        R.walkedFor("not over", x, 0, 2);
        for (int what : new int[] {-1, 9, LEAST, MOST}) {
            C.due("18: told(" + what + ")", x.told(what), BAD);
        }
        C.due("18: told(0)", x.told(0), NONE);
        C.due("18: told(8)", x.told(8), 1);
    }

    private static void toldOfNoWalk() {
        SeldomOps x = Programs.single(5, LEAVE);
        x.judge(0);
        x.give(1);
        x.walk(0, 9);
        x.walk(0, 3001);
        for (int what = 0; what <= 8; what++) {
            C.due("18: a refused WALK is none", x.told(what), NO);
        }
    }

    /** Of each WALK anew: what an earlier one had does not stay. */
    private static void toldOfOneThatIsOver() {
        SeldomOps x = new SeldomOps();
        Programs.method(x, 5, new int[] {INT}, op(5, 0, INT), op(21, 3, 0), LEAVE, op(4), op(4), op(27), op(8), op(8),
            op(35, 1), LEAVE);
        Programs.method(x, 5, NO_ARGUMENTS, op(30, 14), op(31));
        x.handler(0, 5, 6, 7, 1);
        R.walked("failed", 1, x, 0);
        R.toldIs("failed", x, 14, 1, 1, 9, 2, 2, 2, 1, 0);
        R.walked("over", 0, x, 1);
        R.toldIs("over", x, NONE, NONE, NONE, 3, 1, 0, 1, 0, 0);
        R.walkedFor("under way", x, 8, 2, 0);
        R.toldIs("under way", x, NONE, NONE, NONE, 8, 2, 2, 2, 1, 2);
    }

    /** "0 the FAILURE .., 1 the OPERATION, 2 the METHOD at which it arose (of 31: that; NONE)" */
    private static void toldOfFailures() {
        SeldomOps x = new SeldomOps();
        Programs.method(x, 5, NO_ARGUMENTS, op(35, 1), LEAVE, op(31));
        Programs.method(x, 5, NO_ARGUMENTS, op(4), op(27), op(8), LEAVE, op(31));
        R.walked("arose inside", 1, x);
        R.toldIs("arose inside", x, 1, 1, 1);
        x.handler(1, 1, 2, 4, 1);
        R.walked("31 inside", 1, x);
        R.toldIs("31 inside", x, 1, 4, 1);
        x.handler(0, 0, 1, 2, 1);
        R.walked("31 outside", 1, x);
        R.toldIs("31 outside", x, 1, 2, 0, 5, 2, 1, 1, 2, 0);
    }

    /** "6 the most WORDS on a STACK": WORDS, not values, of one STACK, not of all. */
    private static void mostWords() {
        String[] stacks = {"", "I", "L", "LD", "ILFDT", "LDLDLD", "IIIIIIIIIIII"};
        int[] words = {0, 1, 2, 4, 7, 12, 12};
        for (int k = 0; k < stacks.length; k++) {
            SeldomOps x = Runs.withConstant(0, 5, Programs.row(Programs.pushes(stacks[k]), LEAVE));
            R.walked("WORDS of " + stacks[k], 0, x);
            C.due("18: WORDS of " + stacks[k], x.told(6), words[k]);
        }
        SeldomOps x = new SeldomOps();
        x.constant(0);
        Programs.method(x, 5, NO_ARGUMENTS, op(1), op(1), op(1), op(35, 1), op(9), op(35, 1), LEAVE);
        Programs.method(x, LONG, NO_ARGUMENTS, op(1), op(0), op(8), op(34, LONG));
        R.walked("of one STACK", 0, x);
        C.due("18: by a RESULT", x.told(6), 8);
        R.walkedFor("the most so far", x, 6, 2);
        C.due("18: the most so far", x.told(6), 6);
        R.walkedFor("by the RESULT", x, 8, 2);
        C.due("18: by the RESULT", x.told(6), 8);
        SeldomOps y = Runs.withConstant(0, 5, op(1), op(9), op(0), op(8), LEAVE);
        C.due("18: one behind the other", R.walked("dropped", 0, y).told(6), 2);
    }

    /** "8 CALLS that are under way behind it (2: as it stands; else 0)" */
    private static void callsUnderWay() {
        SeldomOps x = new SeldomOps();
        Programs.method(x, 5, NO_ARGUMENTS, op(35, 0), LEAVE);
        for (int steps = 0; steps <= 5; steps++) {
            R.walkedFor("under way", x, steps, 2);
            C.due("18: under way by " + steps, x.told(8), steps + 1);
            C.due("18: CALLS made by " + steps, x.told(4), steps + 1);
        }
        R.walkedFor("failed", x, 6, 1);
        C.due("18: none behind a FAILURE", x.told(8), 0);
        C.due("18: CALLS made", x.told(4), 6);
        C.due("18: one STEP more than CALLS that may be", x.told(3), 6);
    }

    /** "BAD: also none such." */
    private static void numbersOfThing() {
        SeldomOps x = Programs.single(5, op(30, 5), op(0, 3), op(24, 13, 1), LEAVE);
        C.due("19: before any WALK", x.thing(0, 0), BAD);
        R.walked("two THINGS", 0, x);
        for (int i : new int[] {-1, 2, 59, 60, LEAST, MOST}) {
            for (int what = 0; what <= 2; what++) {
                C.due("19: THING " + i, x.thing(i, what), BAD);
            }
        }
        for (int what : new int[] {-1, 3, LEAST, MOST}) {
            C.due("19: thing(0, " + what + ")", x.thing(0, what), BAD);
            C.due("19: thing(1, " + what + ")", x.thing(1, what), BAD);
        }
        int[][] due = {{-95, 0, 0}, {13, 3, 0}};
        for (int i = 0; i < 2; i++) {
            for (int what = 0; what <= 2; what++) {
                C.due("19: thing(" + i + ", " + what + ")", x.thing(i, what), due[i][what]);
            }
        }
        x = Programs.single(5, op(0, 59), op(0, 1), op(24, 16, 2), LEAVE);
        R.walked("60 THINGS", 0, x);
        C.due("19: the last of 60", x.thing(59, 0), 8);
        C.due("19: behind 60", x.thing(60, 0), BAD);
        C.due("20: a cell of the last of 60", x.cell(59, 0), 0);
        C.due("20: a cell behind 60", x.cell(60, 0), BAD);
    }

    /** "THINGS are none at first, numbered from 0 as they are made." */
    private static void thingsOfTheLatestWalk() {
        SeldomOps x = Programs.single(THING, op(30, 5), op(8), op(30, 6), op(34, THING));
        C.due("19: the second", R.walked("two", 0, x).value(), 1);
        C.due("19: there are two", x.thing(1, 0), -94);
        R.walkedFor("one", x, 1, 2);
        C.due("19: there is one", x.told(5), 1);
        C.due("19: the first", x.thing(0, 0), -95);
        C.due("19: none of an earlier WALK", x.thing(1, 0), BAD);
        R.walkedFor("none", x, 0, 2);
        C.due("19: there is none", x.thing(0, 0), BAD);
        C.due("19: numbered from 0 again", R.walked("two again", 0, x).value(), 1);
    }

    private static void refusedWalksLeaveTheLatest() {
        SeldomOps x = Programs.single(INT, op(0, 2), op(24, 8, 1), op(27), op(34, INT));
        R.walked("the latest", 0, x);
        x.walk(0, 3001);
        x.give(1);
        x.walk(0, 9);
        x.alter(0, 0, 0, 1, 0);
        x.walk(0, 9);
        x.judge(0);
        C.due("17: value stays", x.value(), 2);
        R.toldIs("told stays", x, NONE, NONE, NONE, 4, 1, 1, 1, 0, 0);
        C.due("19: thing stays", x.thing(0, 1), 2);
        C.due("20: cell stays", x.cell(0, 1), 0);
    }

    /** "An object is used for at most 512 calls": the last of them is answered as the first. */
    private static void fiveHundredTwelveCalls() {
        SeldomOps x = Programs.single(INT, op(0, 7), op(34, INT));
        for (int call = 4; call <= 508; call += 3) {
            C.due("judge, call " + call, x.judge(0), 0);
            C.due("walk, call " + (call + 1), x.walk(0, 9), 0);
            C.due("value, call " + (call + 2), x.value(), 7);
        }
        C.due("told, call 511", x.told(3), 2);
        C.due("give, call 512", x.give(0), 1);
    }
}
