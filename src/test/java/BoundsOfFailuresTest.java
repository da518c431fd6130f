/**
 * OPERATIONS 30 to 35 in walks, HANDLERS and monitors: "handlers that cover themselves, monitors that are let go by
 * who holds none".
 */
public final class BoundsOfFailuresTest {
    private static final Checks C = new Checks();
    private static final Runs R = new Runs(C);
    private static final int NONE = SeldomOps.NONE, BAD = SeldomOps.BAD;
    private static final int INT = 0, LONG = 1, THING = 4;
    private static final int[] NO_ARGUMENTS = {};
    private static final int[] LEAVE = {34, 5};
    private static final int[] LEAVE_THING = {34, THING};

    public static void main(String[] args) {
        numbersOfFailureThings();
        sixtyFailureThings();
        thingsForFailures();
        thingsThatFailAgain();
        oneThingThroughCalls();
        whatFails();
        numbersThatHandlersAreFor();
        operationsThatHandlersCover();
        callsThatHandlersCover();
        theFirstHandler();
        theStackOfHandlers();
        handlersThatCoverThemselves();
        theCallIsOver();
        monitorsTakenAndLetGo();
        monitorsOfNull();
        monitorsOfAnother();
        monitorsOfWhoCalled();
        monitorsOfCallsOfOneMethod();
        monitorsLetGoByFailing();
        leavingWithMonitors();
        leavingWithMonitorsUncaught();
        monitorsOfEarlierWalks();
        sixCalls();
        callsInTurn();
        tooManyCallsCaught();
        argumentsInOrder();
        moreWordsThanTheResult();
        C.finish();
    }

    private static int[] op(int... o) {
        return o;
    }

    /** "30 (-> T) a new FAILURE THING of number a (0 .. 15)." */
    private static void numbersOfFailureThings() {
        for (int number = 0; number <= 15; number++) {
            SeldomOps x = R.walked("30", 0, Programs.single(THING, op(30, number), LEAVE_THING));
            C.due("the THING", x.value(), 0);
            C.due("its number less 100", x.thing(0, 0), number - 100);
            C.due("its cells", x.thing(0, 1), 0);
            C.due("its monitor", x.thing(0, 2), 0);
        }
    }

    /** So many THINGS are made, and dropped. */
    private static int[][] things(int count) {
        return new int[][] {op(0, count - 1), op(0, 0), op(24, 16, 2), op(8)};
    }

    /** "FAILURE 7 if THINGS are 60." */
    private static void sixtyFailureThings() {
        SeldomOps x = R.walked("the sixtieth", 0, Programs.single(THING, Programs.row(things(59), op(30, 4), LEAVE_THING)));
        C.due("the sixtieth", x.value(), 59);
        C.due("sixty", x.told(5), 60);
        x = R.walked("one more", 1, Programs.single(THING, Programs.row(things(60), op(30, 4), LEAVE_THING)));
        R.toldIs("one more", x, 7, 4, 0, 5, 1, 60, 2, 0, 0);
        C.due("none behind 59", x.thing(60, 0), BAD);
    }

    private static SeldomOps catching(int things, int[]... failing) {
        int[][] row = Programs.row(things(things), failing);
        SeldomOps x = Programs.single(THING, Programs.row(row, LEAVE_THING));
        x.handler(0, row.length - 1, row.length, row.length, -1);
        return x;
    }

    /** "makes a FAILURE THING of its number (.. if THINGS are 60, it is null)" */
    private static void thingsForFailures() {
        SeldomOps x = R.walked("the sixtieth", 0, catching(59, op(4), op(31)));
        C.due("the sixtieth", x.value(), 59);
        C.due("of its number", x.thing(59, 0), -99);
        C.due("THINGS", x.told(5), 60);
        x = R.walked("null", 0, catching(60, op(4), op(31)));
        C.due("null", x.value(), NONE);
        C.due("THINGS", x.told(5), 60);
        C.due("caught", x.told(7), 1);
        x = R.walked("null for a 7", 0, catching(60, op(30, 0)));
        C.due("null for a 7", x.value(), NONE);
        x = R.walked("null for an array", 0, catching(60, op(0, 1), op(24, 8, 1)));
        C.due("null for an array", x.value(), NONE);
        x = R.walked("a THING for an array that does not fit", 0, catching(59, op(0, 1), op(0, 1), op(24, 16, 2)));
        C.due("a THING for an array that does not fit", x.value(), 59);
        C.due("of its number", x.thing(59, 0), -93);
    }

    /** "(31 of one: it is that one ..)", with 60 THINGS, too. */
    private static void thingsThatFailAgain() {
        SeldomOps x = R.walked("that one", 0, catching(58, op(30, 9), op(31)));
        C.due("that one", x.value(), 58);
        C.due("no other is made", x.told(5), 59);
        x = R.walked("that one, of 60", 0, catching(59, op(30, 9), op(31)));
        C.due("that one, of 60", x.value(), 59);
        // null is caught with 60 THINGS, and fails by 1 then, not by what was caught.
        x = Programs.single(THING, Programs.row(things(60), op(30, 9), op(31), LEAVE_THING));
        x.handler(0, 4, 5, 5, 7);
        x.handler(0, 5, 6, 6, 1);
        C.due("null again", R.walked("null fails", 0, x).value(), NONE);
        C.due("caught twice", x.told(7), 2);
    }

    /** "the OPERATION 35 of who CALLED it fails so": no other THING, and caught once. */
    private static void oneThingThroughCalls() {
        SeldomOps x = new SeldomOps();
        Programs.method(x, THING, NO_ARGUMENTS, op(35, 1), op(4), LEAVE_THING, LEAVE_THING);
        Programs.method(x, 5, NO_ARGUMENTS, op(35, 2), LEAVE);
        Programs.method(x, 5, NO_ARGUMENTS, op(30, 12), op(30, 13), op(31));
        x.handler(0, 0, 1, 3, 13);
        C.due("that one", R.walked("through CALLS", 0, x).value(), 1);
        R.toldIs("through CALLS", x, NONE, NONE, NONE, 6, 3, 2, 2, 1, 0);
        x.alter(2, 2, 27, 0, 0);
        Programs.add(x, 2, op(8), op(8), LEAVE);
        x.handler(0, 0, 1, 3, 5);
        C.due("a new one", R.walked("a new one through CALLS", 0, x).value(), 2);
        C.due("only one new one", x.told(5), 3);
    }

    /** "31 (T ->) it fails: by its number, if it is a FAILURE THING; FAILURE 1 for null, 5 for an array." */
    private static void whatFails() {
        for (int number = 0; number <= 15; number++) {
            SeldomOps x = R.fails("31", number, 1, op(30, number), op(31));
            C.due("no other THING", x.told(5), 1);
        }
        C.due("null makes a THING", R.fails("31 of null", 1, 1, op(4), op(31)).thing(0, 0), -99);
        C.due("an array makes a THING", R.fails("31 of an array", 5, 2, op(0, 0), op(24, 8, 1), op(31)).thing(1, 0), -95);
    }

    /** "is for this number, or for all (-1)" */
    private static void numbersThatHandlersAreFor() {
        for (int number = 0; number <= 15; number++) {
            for (int caught = -1; caught <= 15; caught++) {
                SeldomOps x = Programs.single(THING, op(30, number), op(31), LEAVE_THING);
                x.handler(0, 1, 2, 2, caught);
                boolean is = caught == -1 || caught == number;
                R.walked(number + " by a HANDLER for " + caught, is ? 0 : 1, x);
                R.toldIs(number + " by a HANDLER for " + caught, x, is ? NONE : number, is ? NONE : 1, is ? NONE : 0,
                    is ? 3 : 2, 1, 1, 1,
                    is ? 1 : 0, 0);
            }
        }
    }

    /** "covers the OPERATION (from its from up to ahead of its to)" */
    private static void operationsThatHandlersCover() {
        for (int from = 0; from <= 5; from++) {
            for (int to = from; to <= 5; to++) {
                SeldomOps x = Programs.single(5, op(4), op(4), op(31), LEAVE, op(8), LEAVE);
                x.handler(0, from, to, 4, 1);
                boolean covers = from <= 2 && 2 < to;
                // Where it covers its own target, the THING lies there, too, when that one's HANDLER comes.
                R.walked("covered by " + from + " .. " + to, covers ? 0 : 1, x);
                C.due("covered by " + from + " .. " + to, x.told(7), covers ? 1 : 0);
            }
        }
    }

    /** In who CALLED, the OPERATION that is covered is the 35. */
    private static void callsThatHandlersCover() {
        for (int from = 0; from <= 5; from++) {
            for (int to = from; to <= 5; to++) {
                SeldomOps x = new SeldomOps();
                Programs.method(x, 5, NO_ARGUMENTS, op(4), op(8), op(35, 1), LEAVE, op(8), LEAVE);
                Programs.method(x, 5, NO_ARGUMENTS, op(4), op(8), op(4), op(8), op(4), op(8), op(30, 15), op(31));
                x.handler(0, from, to, 4, 15);
                boolean covers = from <= 2 && 2 < to;
                R.walked("a CALL covered by " + from + " .. " + to, covers ? 0 : 1, x);
                R.toldIs("a CALL covered by " + from + " .. " + to, x, covers ? NONE : 15, covers ? NONE : 7,
                    covers ? NONE : 1,
                    covers ? 13 : 11, 2, 1, 1, covers ? 1 : 0, 0);
            }
        }
        SeldomOps x = new SeldomOps();
        Programs.method(x, 5, NO_ARGUMENTS, op(35, 1), LEAVE, op(8), LEAVE);
        Programs.method(x, 5, NO_ARGUMENTS, op(30, 15), op(31));
        x.handler(0, 0, 1, 2, 14);
        R.walked("a CALL's HANDLER for another number", 1, x);
    }

    /** "caught by the first HANDLER, in order" */
    private static void theFirstHandler() {
        for (int first = 0; first < 6; first++) {
            SeldomOps x = Programs.single(INT, op(4), op(31));
            for (int h = 0; h < 6; h++) {
                Programs.add(x, 0, op(8), op(0, h), op(34, INT));
                // Those ahead of the first are for others, or cover others, or nothing.
                int[] range = h >= first ? op(1, 2) : h % 3 == 0 ? op(0, 1) : h % 3 == 1 ? op(1, 1) : op(1, 2);
                x.handler(0, range[0], range[1], 2 + 3 * h, h < first && h % 3 == 2 ? 2 : h % 2 == 0 ? -1 : 1);
            }
            C.due("the first HANDLER", R.walked("the first HANDLER", 0, x).value(), first);
        }
        SeldomOps x = Programs.single(5, op(4), op(31), op(8), LEAVE);
        for (int h = 0; h < 6; h++) {
            x.handler(0, 1, 2, 2, 2 + h);
        }
        R.walked("none of six", 1, x);
        R.toldIs("none of six", x, 1, 1, 0, 2, 1, 1, 1, 0, 0);
    }

    /** "the STACK has that THING alone, and it goes on at the target" */
    private static void theStackOfHandlers() {
        SeldomOps x = Programs.single(THING, Programs.row(Programs.times(11, 0, 1), op(4), op(31), op(4), op(4),
            LEAVE_THING, LEAVE_THING));
        x.handler(0, 12, 13, 16, 1);
        C.due("the THING", R.walked("12 WORDS ahead of it", 0, x).value(), 0);
        R.toldIs("12 WORDS ahead of it", x, NONE, NONE, NONE, 14, 1, 1, 12, 1, 0);
        x = new SeldomOps();
        Programs.method(x, THING, NO_ARGUMENTS, op(35, 0), LEAVE_THING, LEAVE_THING);
        x.handler(0, 0, 1, 2, 8);
        R.walked("no WORDS ahead of it", 0, x);
        C.due("one WORD by the HANDLER", x.told(6), 1);
    }

    private static void handlersThatCoverThemselves() {
        // Its target is covered by itself, and fails again with the same THING, till no STEP is left.
        SeldomOps x = Programs.single(5, op(30, 15), op(31));
        x.handler(0, 0, 2, 1, 15);
        R.walkedFor("the same THING", x, 3000, 2);
        R.toldIs("the same THING", x, NONE, NONE, NONE, 3000, 1, 1, 1, 2999, 1);
        // By a new FAILURE each time, that is null at last, which it then is for, too.
        x = Programs.single(5, op(4), op(27), op(8), op(4), op(20, 1));
        x.handler(0, 0, 5, 1, 5);
        x.handler(0, 1, 2, 1, 1);
        R.walkedFor("new THINGS", x, 3000, 2);
        R.toldIs("new THINGS", x, NONE, NONE, NONE, 3000, 1, 60, 1, 2999, 1);
        C.due("the first by null", x.thing(0, 0), -99);
        C.due("the others by no array", x.thing(59, 0), -95);
        // For one number only: what fails in it by another one is caught nowhere.
        x = Programs.single(5, op(4), op(27), op(8), LEAVE);
        x.handler(0, 1, 2, 1, 1);
        R.walked("by another number", 1, x);
        R.toldIs("by another number", x, 5, 1, 0, 3, 1, 2, 1, 1, 0);
    }

    /** "If there is none, the CALL is over .. if none did, the WALK is over." */
    private static void theCallIsOver() {
        for (int calls = 1; calls <= 6; calls++) {
            SeldomOps x = new SeldomOps();
            for (int m = 0; m < calls - 1; m++) {
                Programs.method(x, 5, NO_ARGUMENTS, op(0, m), op(35, m + 1), LEAVE);
            }
            Programs.method(x, 5, NO_ARGUMENTS, op(0, 1), op(0, 0), op(17, 3, INT), LEAVE);
            R.walked("over all CALLS", 1, x);
            R.toldIs(calls + " CALLS are over", x, 0, 2, calls - 1, 2 * calls + 1, calls, 1, 2, 0, 0);
        }
    }

    private static int[][] held(int times) {
        int[][] row = {op(30, 0), op(6, 0, THING)};
        for (int t = 0; t < times; t++) {
            row = Programs.row(row, op(5, 0, THING), op(32));
        }
        return row;
    }

    private static int[][] letGo(int[][] row, int times) {
        for (int t = 0; t < times; t++) {
            row = Programs.row(row, op(5, 0, THING), op(33));
        }
        return row;
    }

    /** "its monitor is taken once more, 33 (T ->) let go once. .. 6 (33) this CALL holds it not." */
    private static void monitorsTakenAndLetGo() {
        for (int times = 0; times <= 5; times++) {
            for (int letGo = 0; letGo <= times + 1; letGo++) {
                int[][] row = letGo(held(times), letGo);
                String what = times + " taken, " + letGo + " let go";
                SeldomOps x = Programs.single(5, Programs.row(row, LEAVE));
                R.walked(what, letGo == times ? 0 : 1, x);
                C.due(what, x.told(0), letGo == times ? NONE : 6);
                C.due(what + ": at", x.told(1), letGo == times ? NONE : letGo > times ? row.length - 1 : row.length);
                C.due(what + ": held by none then", x.thing(0, 2), 0);
                R.walkedFor(what, x, Math.min(row.length, 2 + 2 * times + 2 * letGo - (letGo > times ? 2 : 0)), 2);
                C.due(what + ": as it stands", x.thing(0, 2), Math.max(0, times - letGo));
            }
        }
    }

    private static void monitorsOfNull() {
        R.fails("32 of null", 1, 1, op(4), op(32), LEAVE);
        R.fails("33 of null", 1, 1, op(4), op(33), LEAVE);
        SeldomOps x = Programs.single(5, Programs.row(things(59), op(30, 0), op(10), op(32), op(20, 7)));
        R.walkedFor("of the sixtieth THING", x, 20, 2);
        C.due("of the sixtieth THING", x.thing(59, 2), 1);
        C.due("of the one ahead of it", x.thing(58, 2), 0);
    }

    private static void monitorsOfAnother() {
        SeldomOps x = R.fails("of another THING", 6, 4, op(30, 1), op(10), op(32), op(30, 2), op(33), LEAVE);
        C.due("let go by failing", x.thing(0, 2), 0);
        R.fails("of an array", 6, 2, op(0, 0), op(24, 8, 1), op(33), LEAVE);
        R.gives("an array's", 0, THING, op(0, 0), op(24, 8, 1), op(10), op(10), op(32), op(33), LEAVE_THING);
    }

    /** "this CALL holds it not": who CALLED it may. */
    private static void monitorsOfWhoCalled() {
        for (int taken = 0; taken <= 2; taken++) {
            for (int letGo = 0; letGo <= 3; letGo++) {
                SeldomOps x = new SeldomOps();
                Programs.method(x, 5, NO_ARGUMENTS, Programs.row(held(2), op(5, 0, THING), op(35, 1), op(20, 8), op(8),
                    op(20, 10)));
                x.handler(0, 7, 8, 9, 6);
                int[][] row = {};
                for (int t = 0; t < taken; t++) {
                    row = Programs.row(row, op(5, 0, THING), op(32));
                }
                Programs.method(x, 5, new int[] {THING}, Programs.row(letGo(row, letGo), LEAVE));
                String what = taken + " taken inside, " + letGo + " let go";
                R.walkedFor(what, x, 100, 2);
                C.due(what + ": caught", x.told(7), taken == letGo ? 0 : 1);
                C.due(what + ": who CALLED holds its own", x.thing(0, 2), 2);
                C.due(what + ": under way", x.told(8), 1);
            }
        }
    }

    /** Two CALLS of one METHOD each hold for themselves: the inner one takes it, too. */
    private static void monitorsOfCallsOfOneMethod() {
        SeldomOps x = new SeldomOps();
        Programs.method(x, 5, NO_ARGUMENTS, op(30, 0), op(0, 2), op(35, 1), LEAVE);
        Programs.method(x, 5, new int[] {THING, INT}, op(5, 0, THING), op(32), op(5, 1, INT), op(21, 8, 5),
            op(5, 0, THING), op(7, 1, -1),
            op(5, 1, INT), op(35, 1), op(5, 0, THING), op(33), LEAVE);
        R.walkedFor("three hold it", x, 3 + 8 + 8 + 2, 2);
        C.due("three hold it", x.thing(0, 2), 3);
        C.due("four CALLS", x.told(8), 4);
        R.walked("each lets it go", 0, x);
        C.due("each lets it go", x.thing(0, 2), 0);
    }

    /** "the CALL is over (what it held is let go)" */
    private static void monitorsLetGoByFailing() {
        SeldomOps x = new SeldomOps();
        Programs.method(x, 5, NO_ARGUMENTS, Programs.row(held(1), op(5, 0, THING), op(35, 1), op(20, 6), op(8), op(20, 8)));
        Programs.method(x, 5, new int[] {THING}, op(5, 0, THING), op(32), op(5, 0, THING), op(32), op(5, 0, THING),
            op(35, 2), LEAVE);
        Programs.method(x, 5, new int[] {THING}, op(5, 0, THING), op(32), op(4), op(31));
        x.handler(0, 5, 6, 7, 1);
        R.walkedFor("ahead of it", x, 6 + 6 + 3, 2);
        C.due("held four times", x.thing(0, 2), 4);
        R.walkedFor("caught two CALLS up", x, 6 + 6 + 4, 2);
        C.due("held once", x.thing(0, 2), 1);
        C.due("CALLS under way", x.told(8), 1);
        x.alter(2, 3, 8, 0, 0);
        Programs.add(x, 2, LEAVE);
        x.handler(2, 5, 5, 0, 0);
        R.walkedFor("leaving instead", x, 100, 1);
        R.toldIs("leaving instead", x, 6, 4, 2);
        C.due("caught nowhere, so all is let go", x.thing(0, 2), 0);
    }

    /** "FAILURE 6, if it holds a monitor (it holds all it held)" */
    private static void leavingWithMonitors() {
        SeldomOps x = Programs.single(INT, Programs.row(held(2), op(0, 7), op(34, INT), op(8), op(0, 8),
            op(5, 0, THING), op(33), op(34, INT)));
        x.handler(0, 7, 8, 8, 6);
        x.handler(0, 12, 13, 8, 6);
        R.walkedFor("held twice still", x, 8, 2);
        C.due("held twice still", x.thing(0, 2), 2);
        C.due("under way", x.told(8), 1);
        C.due("no RESULT yet", x.value(), 0);
        R.walkedFor("held once still", x, 13, 2);
        C.due("held once still", x.thing(0, 2), 1);
        C.due("left at last", R.walked("left at last", 0, x).value(), 8);
        R.toldIs("left at last", x, NONE, NONE, NONE, 18, 1, 3, 2, 2, 0);
    }

    private static void leavingWithMonitorsUncaught() {
        SeldomOps x = new SeldomOps();
        Programs.method(x, INT, NO_ARGUMENTS, op(0, 3), op(35, 1), op(34, INT), op(8), op(0, 4), op(34, INT));
        Programs.method(x, 5, NO_ARGUMENTS, Programs.row(held(1), LEAVE));
        R.walked("caught nowhere", 1, x);
        R.toldIs("caught nowhere", x, 6, 4, 1, 7, 2, 2, 1, 0, 0);
        C.due("let go", x.thing(0, 2), 0);
        x.handler(0, 1, 2, 3, 6);
        C.due("caught by who CALLED", R.walked("caught by who CALLED", 0, x).value(), 4);
        C.due("let go", x.thing(0, 2), 0);
    }

    private static void monitorsOfEarlierWalks() {
        SeldomOps x = Programs.single(5, Programs.row(held(1), LEAVE));
        R.walkedFor("held as it stands", x, 4, 2);
        C.due("held as it stands", x.thing(0, 2), 1);
        R.walkedFor("a new WALK", x, 3, 2);
        C.due("nothing is held in a new one", x.thing(0, 2), 0);
        x.alter(0, 3, 33, 0, 0);
        R.walked("not held by the CALL of a new one", 1, x);
        C.due("not held by the CALL of a new one", x.told(0), 6);
    }

    /** METHOD 0 CALLS itself so often as its ARGUMENT tells, and counts how often. */
    private static SeldomOps calling() {
        SeldomOps x = new SeldomOps();
        Programs.method(x, INT, new int[] {INT}, op(5, 0, INT), op(21, 9, 5), op(5, 0, INT), op(0, 1), op(17, 1, INT),
            op(35, 0), op(0, 1),
            op(17, 0, INT), op(34, INT), op(0, 0), op(34, INT));
        return x;
    }

    /** "FAILURE 8, if 6 CALLS are under way." */
    private static void sixCalls() {
        for (int more = 0; more <= 7; more++) {
            SeldomOps x = calling();
            R.walked(more + " more CALLS", more <= 5 ? 0 : 1, x, more);
            C.due("how many more", x.value(), more <= 5 ? more : 0);
            C.due("FAILURE", x.told(0), more <= 5 ? NONE : 8);
            C.due("at", x.told(1), more <= 5 ? NONE : 5);
            C.due("CALLS made", x.told(4), Math.min(more, 5) + 1);
            C.due("CALLS under way", x.told(8), 0);
            // Each but the innermost takes 6 STEPS ahead of the next one.
            R.walkedFor("as it stands", x, 6 * Math.min(more, 5), 2, more);
            C.due("CALLS under way as it stands", x.told(8), Math.min(more, 5) + 1);
        }
    }

    /** What is over is not under way: far more than 6 in turn. */
    private static void callsInTurn() {
        SeldomOps x = new SeldomOps();
        Programs.method(x, 5, NO_ARGUMENTS, op(0, 20), op(6, 0, INT), op(35, 1), op(7, 0, -1), op(5, 0, INT),
            op(21, 2, 1), LEAVE);
        Programs.method(x, 5, NO_ARGUMENTS, LEAVE);
        R.walked("20 in turn", 0, x);
        C.due("20 in turn", x.told(4), 21);
        // Those that a FAILURE ended, too.
        Programs.add(x, 0, op(8), op(20, 3));
        x.alter(1, 0, 30, 3, 0);
        Programs.add(x, 1, op(31));
        x.handler(0, 2, 3, 7, 3);
        R.walked("20 that failed", 0, x);
        C.due("20 that failed", x.told(4), 21);
        C.due("20 caught", x.told(7), 20);
    }

    private static void tooManyCallsCaught() {
        SeldomOps x = new SeldomOps();
        Programs.method(x, INT, NO_ARGUMENTS, op(35, 0), op(0, 1), op(17, 0, INT), op(34, INT), op(8), op(0, 100),
            op(34, INT));
        x.handler(0, 0, 1, 4, 8);
        C.due("caught in the sixth", R.walked("caught in the sixth", 0, x).value(), 105);
        R.toldIs("caught in the sixth", x, NONE, NONE, NONE, 6 + 3 + 5 * 3, 6, 1, 2, 1, 0);
    }

    /** "35 (its ARGUMENTS -> its RESULT)", the first ARGUMENT lowest, and what lies below stays. */
    private static void argumentsInOrder() {
        for (int place = 0; place < 8; place++) {
            SeldomOps x = new SeldomOps();
            Programs.method(x, INT, NO_ARGUMENTS, op(0, 1000), op(0, 0), op(0, 1), op(0, 2), op(0, 3), op(0, 4),
                op(0, 5), op(0, 6), op(0, 7),
                op(35, 1), op(17, 0, INT), op(34, INT));
            Programs.method(x, INT, new int[] {0, 0, 0, 0, 0, 0, 0, 0}, op(5, place, INT), op(34, INT));
            C.due("ARGUMENT " + place, R.walked("ARGUMENTS", 0, x).value(), 1000 + place);
            C.due("9 WORDS", x.told(6), 9);
        }
        int[][] kinds = {{1, 0, 0}, {0, 1, 1}, {0, 3, 0}};
        for (int[] arguments : kinds) {
            SeldomOps x = new SeldomOps();
            x.constant(-5_000_000_000L);
            int[][] pushes = new int[3][];
            int place = 0;
            for (int k = 0; k < 3; k++) {
                pushes[k] = Programs.width(arguments[k]) == 2 ? op(arguments[k], 0) : op(0, 7 + k);
                place += k < 2 ? Programs.width(arguments[k]) : 0;
            }
            Programs.method(x, arguments[2], NO_ARGUMENTS, Programs.row(pushes, op(35, 1), op(34, arguments[2])));
            Programs.method(x, arguments[2], arguments, op(5, place, arguments[2]), op(34, arguments[2]));
            C.due("the last ARGUMENT", R.walked("ARGUMENTS", 0, x).value(), arguments[2] == LONG ? -5_000_000_000L : 9);
        }
    }

    /** "34 (K ->)": what lies below the RESULT is gone with the CALL. */
    private static void moreWordsThanTheResult() {
        SeldomOps x = new SeldomOps();
        Programs.method(x, INT, NO_ARGUMENTS, op(0, 40), op(35, 1), op(17, 0, INT), op(34, INT));
        Programs.method(x, INT, NO_ARGUMENTS, Programs.row(Programs.times(11, 0, 9), op(0, 2), op(34, INT)));
        C.due("the RESULT alone", R.walked("the RESULT alone", 0, x).value(), 42);
        C.due("the most WORDS, inside", x.told(6), 12);
        Programs.method(x, 5, NO_ARGUMENTS, op(0, 9), LEAVE);
        x.alter(0, 1, 35, 2, 0);
        x.alter(0, 2, 17, 11, INT);
        C.due("nothing comes", R.walked("nothing comes", 0, x).value(), -40);
    }
}
