/** Promises 15 to 20: walks, and what is told of them. */
public final class WalkTest {
    private static final Checks C = new Checks();
    private static final Runs R = new Runs(C);
    private static final int NONE = SeldomOps.NONE, BAD = SeldomOps.BAD, NO = SeldomOps.NO, FULL = SeldomOps.FULL;
    private static final int[] NO_ARGUMENTS = {};

    public static void main(String[] args) {
        giving();
        refusedWalks();
        argumentsOfEachKind();
        results();
        stepLimits();
        callsAndTheirStacks();
        failuresGoUp();
        failedAgain();
        handlersInOrder();
        handlersThatCoverThemselves();
        tooDeep();
        monitors();
        monitorsOfCallers();
        monitorsAreLetGo();
        leavingWithMonitors();
        monitorsAsTheyStand();
        thingsAtTheirMost();
        thingsAndCells();
        latestWalkStays();
        allRowsFull();
        C.finish();
    }

    private static int[] op(int... o) {
        return o;
    }

    private static void giving() {
        SeldomOps x = new SeldomOps();
        for (int g = 1; g <= 8; g++) {
            C.due("15 give", x.give(Long.MIN_VALUE), g);
        }
        C.due("15 give a ninth", x.give(0), FULL);
        C.due("15 GIVEN", x.count(3), 8);
    }

    private static void refusedWalks() {
        SeldomOps x = new SeldomOps();
        C.due("no METHOD", x.walk(0, 0), BAD);
        Programs.method(x, 0, new int[] {0, 4}, op(5, 0, 0), op(34, 0));
        Programs.method(x, 5, NO_ARGUMENTS, op(34, 5));
        C.due("BAD ahead of NO", x.walk(0, 3001), BAD);
        C.due("steps -1", x.walk(0, -1), BAD);
        C.due("not judged", x.walk(0, 9), NO);
        x.judge(0);
        x.give(1);
        x.give(2);
        C.due("not all judged", x.walk(0, 9), NO);
        x.judge(1);
        C.due("too many GIVEN", x.walk(1, 9), NO);
        C.due("GIVEN stay", x.count(3), 2);
        C.due("told: none yet", x.told(0), NO);
        C.due("told(-1)", x.told(-1), BAD);
        C.due("told(9) ahead of NO", x.told(9), BAD);
        C.due("the walk", x.walk(0, 3000), 0);
        C.due("nothing is GIVEN", x.count(3), 0);
        C.due("value", x.value(), 1);
        C.due("a null counts as GIVEN", x.walk(0, 9), NO);
        C.due("m -1", x.walk(-1, 9), BAD);
        C.due("m 2", x.walk(2, 9), BAD);
        C.due("value stays", x.value(), 1);
    }

    private static void argumentsOfEachKind() {
        long bits = 0x89abcdef12345678L;
        long[] want = {(int) bits, bits, (int) bits, bits, NONE};
        for (int kind = 0; kind < 5; kind++) {
            SeldomOps x = new SeldomOps();
            Programs.method(x, kind, new int[] {1, kind, 0}, op(5, 2, kind), op(34, kind));
            x.judge(0);
            x.give(-1);
            x.give(bits);
            x.give(7);
            C.due("walk", x.walk(0, 9), 0);
            C.due("ARGUMENT of KIND " + kind, x.value(), want[kind]);
        }
        SeldomOps x = new SeldomOps();
        Programs.method(x, 0, new int[] {0}, op(5, 0, 0), op(34, 0));
        x.judge(0);
        x.give(0x1ffffffffL);
        C.due("walk", x.walk(0, 9), 0);
        C.due("an INT of the lowest 32 bits", x.value(), -1);
    }

    private static void results() {
        SeldomOps x = Programs.single(2, op(2, 0x80000000), op(34, 2));
        R.walkedFor("a FLOAT", x, 9, 0);
        C.due("a FLOAT's bits with sign", x.value(), Integer.MIN_VALUE);
        x = Programs.single(4, op(4), op(34, 4));
        R.walkedFor("null", x, 9, 0);
        C.due("null", x.value(), NONE);
        x = Programs.single(0, op(0, 0), op(0, 0), op(17, 3, 0), op(34, 0));
        R.walkedFor("failed", x, 9, 1);
        C.due("no RESULT of a failed one", x.value(), 0);
        x = Programs.single(0, op(0, 9), op(34, 0));
        R.walkedFor("out of STEPS", x, 1, 2);
        C.due("no RESULT of one that is not over", x.value(), 0);
    }

    private static void stepLimits() {
        SeldomOps x = Programs.single(0, op(0, 9), op(34, 0));
        R.walkedFor("no STEPS", x, 0, 2);
        R.toldIs("no STEPS", x, NONE, NONE, NONE, 0, 1, 0, 0, 0, 1);
        R.walkedFor("just enough", x, 2, 0);
        R.toldIs("just enough", x, NONE, NONE, NONE, 2, 1, 0, 1, 0, 0);
        x = Programs.single(5, op(20, 0));
        R.walkedFor("for ever", x, 3000, 2);
        R.toldIs("for ever", x, NONE, NONE, NONE, 3000, 1, 0, 0, 0, 1);
    }

    private static void callsAndTheirStacks() {
        SeldomOps x = new SeldomOps();
        x.constant(5_000_000_000L);
        Programs.method(x, 1, NO_ARGUMENTS, op(0, 3), op(1, 0), op(0, 1), op(2, 99), op(35, 1), op(34, 1));
        // LOCAL 0 an INT, 1 and 2 a LONG, 3 an INT, 4 a FLOAT: the LONG less the INTS.
        Programs.method(x, 1, new int[] {0, 1, 0, 2}, op(5, 1, 1), op(5, 3, 0), op(18, 4), op(17, 1, 1), op(5, 0, 0),
            op(18, 4), op(17, 1, 1), op(34, 1));
        R.walkedFor("a CALL", x, 99, 0);
        C.due("its RESULT", x.value(), 4_999_999_996L);
        R.toldIs("a CALL", x, NONE, NONE, NONE, 14, 2, 0, 5, 0, 0);
        R.walkedFor("in the CALL", x, 7, 2);
        R.toldIs("in the CALL", x, NONE, NONE, NONE, 7, 2, 0, 5, 0, 2);
    }

    private static void failuresGoUp() {
        SeldomOps x = new SeldomOps();
        Programs.method(x, 0, NO_ARGUMENTS, op(0, 5), op(35, 1), op(34, 0), op(8), op(0, -3), op(34, 0));
        Programs.method(x, 5, NO_ARGUMENTS, op(35, 2), op(34, 5));
        Programs.method(x, 5, NO_ARGUMENTS, op(4), op(0, 1), op(0, 0), op(17, 4, 0), op(34, 5));
        R.walkedFor("caught nowhere", x, 99, 1);
        R.toldIs("caught nowhere", x, 0, 3, 2, 7, 3, 1, 3, 0, 0);
        C.due("its THING", x.thing(0, 0), -100);
        x.handler(0, 0, 1, 3, 0);
        x.handler(0, 1, 2, 3, 1);
        R.walkedFor("HANDLERS for others", x, 99, 1);
        x.handler(0, 1, 2, 3, 0);
        R.walkedFor("caught by who CALLED", x, 99, 0);
        C.due("caught by who CALLED", x.value(), -3);
        R.toldIs("caught by who CALLED", x, NONE, NONE, NONE, 10, 3, 1, 3, 1, 0);
    }

    private static void failedAgain() {
        // The FAILURE THING that was caught fails again, at 31, and is the same one.
        SeldomOps x = Programs.single(5, op(30, 15), op(31), op(10), op(32), op(31));
        x.handler(0, 0, 2, 2, 15);
        R.walkedFor("failed again", x, 99, 1);
        R.toldIs("failed again", x, 15, 4, 0, 5, 1, 1, 2, 1, 0);
        C.due("its TYPE", x.thing(0, 0), -85);
        C.due("its cells", x.thing(0, 1), 0);
        C.due("what it held is let go", x.thing(0, 2), 0);
        C.due("no cell", x.cell(0, 0), BAD);
    }

    private static void handlersInOrder() {
        SeldomOps x = Programs.single(0, op(4), op(27), op(34, 0), op(8), op(0, 10), op(34, 0), op(8), op(0, 20), op(34, 0));
        x.handler(0, 1, 2, 3, 5);
        x.handler(0, 1, 2, 6, -1);
        x.handler(0, 1, 2, 3, 1);
        R.walkedFor("the first that is for it", x, 99, 0);
        C.due("the first that is for it", x.value(), 20);
        x = Programs.single(0, op(4), op(27), op(34, 0), op(8), op(0, 10), op(34, 0));
        x.handler(0, 0, 1, 3, -1);
        x.handler(0, 2, 3, 3, -1);
        R.walkedFor("none covers it", x, 99, 1);
        R.toldIs("none covers it", x, 1, 1, 0, 2, 1, 1, 1, 0, 0);
    }

    private static void handlersThatCoverThemselves() {
        // 1: fails with what it was given; its own FAILURE comes back to it for ever.
        SeldomOps x = Programs.single(5, op(30, 2), op(31));
        x.handler(0, 0, 2, 1, -1);
        R.walkedFor("covers itself", x, 50, 2);
        R.toldIs("covers itself", x, NONE, NONE, NONE, 50, 1, 1, 1, 49, 1);
        // Each time a new THING, till there are 60; then null comes.
        x = Programs.single(5, op(4), op(8), op(4), op(31));
        x.handler(0, 3, 4, 1, 1);
        R.walkedFor("till THINGS are 60", x, 3000, 2);
        C.due("THINGS", x.told(5), 60);
        C.due("caught", x.told(7), 999);
        C.due("the last one", x.thing(59, 0), -99);
        C.due("no more", x.thing(60, 0), BAD);
    }

    private static void tooDeep() {
        SeldomOps x = new SeldomOps();
        Programs.method(x, 5, NO_ARGUMENTS, op(0, 4), op(35, 0), op(34, 5));
        R.walkedFor("too deep", x, 3000, 1);
        R.toldIs("too deep", x, 8, 1, 0, 12, 6, 1, 1, 0, 0);
        Programs.add(x, 0, op(8), op(34, 5));
        x.handler(0, 1, 2, 3, 8);
        R.walkedFor("caught in the sixth", x, 3000, 0);
        R.toldIs("caught in the sixth", x, NONE, NONE, NONE, 19, 6, 1, 1, 1, 0);
    }

    private static void monitors() {
        SeldomOps x = Programs.single(5, op(30, 0), op(6, 0, 4), op(5, 0, 4), op(32), op(5, 0, 4), op(32),
            op(5, 0, 4), op(33), op(5, 0, 4), op(33), op(5, 0, 4), op(33), op(34, 5));
        for (int steps = 0; steps < 10; steps++) {
            R.walkedFor("monitors", x, steps, 2);
            int held = steps < 4 ? 0 : steps < 6 ? 1 : steps < 8 ? 2 : 1;
            C.due("held after " + steps, x.thing(0, 2), steps == 0 ? BAD : held);
        }
        R.walkedFor("one too many", x, 99, 1);
        R.toldIs("one too many", x, 6, 11, 0, 12, 1, 2, 1, 0, 0);
        C.due("held by none", x.thing(0, 2), 0);
        x = Programs.single(5, op(4), op(33), op(34, 5));
        R.walkedFor("null let go", x, 99, 1);
        C.due("null let go", x.told(0), 1);
        x = Programs.single(5, op(4), op(32), op(34, 5));
        R.walkedFor("null taken", x, 99, 1);
        C.due("null taken", x.told(0), 1);
    }

    private static void monitorsOfCallers() {
        // The CALLED one may take it once more, but not let go what its caller holds.
        SeldomOps x = new SeldomOps();
        Programs.method(x, 5, NO_ARGUMENTS, op(30, 0), op(10), op(32), op(35, 1), op(34, 5));
        Programs.method(x, 5, new int[] {4}, op(5, 0, 4), op(33), op(34, 5));
        R.walkedFor("who holds none", x, 99, 1);
        R.toldIs("who holds none", x, 6, 1, 1, 6, 2, 2, 2, 0, 0);
        C.due("held by none", x.thing(0, 2), 0);
    }

    private static void monitorsAreLetGo() {
        // The CALLED one fails holding it twice; who CALLED it catches, and holds it once still.
        SeldomOps x = new SeldomOps();
        Programs.method(x, 5, NO_ARGUMENTS, op(30, 7), op(10), op(6, 0, 4), op(32), op(5, 0, 4), op(35, 1), op(20, 6),
            op(8), op(20, 6));
        Programs.method(x, 5, new int[] {4}, op(5, 0, 4), op(32), op(5, 0, 4), op(32), op(5, 0, 4), op(31));
        x.handler(0, 5, 6, 7, 7);
        R.walkedFor("inside", x, 11, 2);
        C.due("held thrice", x.thing(0, 2), 3);
        R.walkedFor("caught outside", x, 40, 2);
        C.due("held once", x.thing(0, 2), 1);
        R.toldIs("caught outside", x, NONE, NONE, NONE, 40, 2, 1, 2, 1, 1);
    }

    private static void leavingWithMonitors() {
        // FAILURE 6 at 34; the HANDLER lets go, then it may leave.
        SeldomOps x = Programs.single(0, op(30, 0), op(10), op(6, 0, 4), op(32), op(0, 8), op(34, 0),
            op(8), op(5, 0, 4), op(33), op(0, 4), op(34, 0));
        R.walkedFor("leaving with a monitor", x, 99, 1);
        R.toldIs("leaving with a monitor", x, 6, 5, 0, 6, 1, 2, 2, 0, 0);
        C.due("let go", x.thing(0, 2), 0);
        x.handler(0, 5, 6, 6, 6);
        R.walkedFor("held still", x, 7, 2);
        C.due("held still", x.thing(0, 2), 1);
        R.walkedFor("let go, then left", x, 99, 0);
        C.due("let go, then left", x.value(), 4);
        R.toldIs("let go, then left", x, NONE, NONE, NONE, 11, 1, 2, 2, 1, 0);
    }

    private static void monitorsAsTheyStand() {
        SeldomOps x = Programs.single(5, op(30, 0), op(10), op(6, 0, 4), op(32), op(20, 4));
        R.walkedFor("as it stands", x, 9, 2);
        C.due("as it stands", x.thing(0, 2), 1);
        R.walkedFor("a new walk", x, 1, 2);
        C.due("a new walk", x.thing(0, 2), 0);
    }

    private static void thingsAtTheirMost() {
        SeldomOps x = Programs.single(5, op(30, 4), op(8), op(20, 0));
        R.walkedFor("61 THINGS", x, 3000, 1);
        R.toldIs("61 THINGS", x, 7, 0, 0, 181, 1, 60, 1, 0, 0);
        // What is caught then is null.
        Programs.add(x, 0, op(22, 5, 0), op(20, 4), op(34, 5));
        x.handler(0, 0, 1, 3, 7);
        R.walkedFor("null is caught", x, 3000, 0);
        R.toldIs("null is caught", x, NONE, NONE, NONE, 183, 1, 60, 1, 1, 0);
    }

    private static void thingsAndCells() {
        SeldomOps x = new SeldomOps();
        x.constant(-7);
        Programs.method(x, 4, NO_ARGUMENTS, op(0, 2), op(24, 9, 1), op(10), op(0, 1), op(1, 0), op(26, 0, 1), op(34, 4));
        R.walkedFor("LONGS", x, 99, 0);
        C.due("thing", x.value(), 0);
        C.due("TYPE", x.thing(0, 0), 9);
        C.due("cells", x.thing(0, 1), 2);
        C.due("held", x.thing(0, 2), 0);
        C.due("thing(0, 3)", x.thing(0, 3), BAD);
        C.due("thing(0, -1)", x.thing(0, -1), BAD);
        C.due("thing(1, 0)", x.thing(1, 0), BAD);
        C.due("thing(-1, 0)", x.thing(-1, 0), BAD);
        C.due("cell(0, 0)", x.cell(0, 0), 0);
        C.due("cell(0, 1)", x.cell(0, 1), -7);
        C.due("cell(0, 2)", x.cell(0, 2), BAD);
        C.due("cell(0, -1)", x.cell(0, -1), BAD);
        C.due("cell(1, 0)", x.cell(1, 0), BAD);
        C.due("cell(-1, 0)", x.cell(-1, 0), BAD);
    }

    private static void latestWalkStays() {
        SeldomOps x = Programs.single(4, op(0, 3), op(24, 8, 1), op(34, 4));
        R.walkedFor("an array", x, 99, 0);
        x.op(0, 0, 0, 0);
        C.due("a refused walk", x.walk(0, 9), NO);
        C.due("told stays", x.told(3), 3);
        C.due("thing stays", x.thing(0, 1), 3);
        C.due("cell stays", x.cell(0, 2), 0);
        C.due("value stays", x.value(), 0);
    }

    /** 8 METHODS, 40 CONSTANTS, 8 TABLES of 8 entries; in the last METHOD 8 ARGUMENTS, 60 OPERATIONS, 6 HANDLERS. */
    private static void allRowsFull() {
        SeldomOps x = new SeldomOps();
        for (int c = 0; c < 40; c++) {
            x.constant(c);
        }
        for (int t = 0; t < 8; t++) {
            x.table(false, 10, 0);
            for (int e = 0; e < 8; e++) {
                x.entry(t, 10 + e, e == 7 ? 56 : 0);
            }
        }
        Programs.method(x, 0, NO_ARGUMENTS, op(0, 0), op(0, 1), op(0, 2), op(0, 3), op(0, 4), op(0, 5), op(0, 6), op(0, 17),
            op(35, 7), op(34, 0));
        for (int m = 1; m < 7; m++) {
            Programs.method(x, 5, NO_ARGUMENTS, op(34, 5));
        }
        int last = Programs.method(x, 0, new int[] {0, 0, 0, 0, 0, 0, 0, 0});
        for (int i = 0; i < 27; i++) {
            Programs.add(x, last, op(1, 39), op(9));
        }
        // By the last ARGUMENT and the last entry of the last TABLE to 56; null fails to the last HANDLER's 58.
        Programs.add(x, last, op(5, 7, 0), op(23, 7), op(4), op(31), op(28, 8), op(34, 0));
        for (int number = 6; number > 0; number--) {
            x.handler(last, 57, 58, 58, number);
        }
        C.due("no more OPERATIONS", x.op(last, 0, 0, 0), FULL);
        C.due("no more HANDLERS", x.handler(last, 57, 58, 58, 0), FULL);
        R.walkedFor("all rows full", x, 3000, 0);
        R.toldIs("all rows full", x, NONE, NONE, NONE, 70, 2, 1, 8, 1, 0);
        for (int g = 10; g < 18; g++) {
            x.give(g);
        }
        C.due("walk with 8 ARGUMENTS", x.walk(last, 3000), 0);
        R.toldIs("8 ARGUMENTS", x, NONE, NONE, NONE, 60, 1, 1, 2, 1, 0);
    }
}
