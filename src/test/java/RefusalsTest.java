import java.util.ArrayList;
import java.util.List;
import java.util.function.ToLongFunction;

/**
 * "REFUSALS change nothing": each refusal of each call, on an object whose rows are all full, that has been judged
 * and walked and has GIVEN; and what ends that METHODS are GOOD, and what does not.
 */
public final class RefusalsTest {
    private static final Checks C = new Checks();
    private static final int BAD = SeldomOps.BAD, NO = SeldomOps.NO, FULL = SeldomOps.FULL, NONE = SeldomOps.NONE;
    private static final int LEAST = Integer.MIN_VALUE, MOST = Integer.MAX_VALUE;

    public static void main(String[] args) {
        refusedWhenFull();
        refusedWithRoom();
        refusedBeforeAnyWalk();
        tellingEndsGoodness();
        othersDoNot();
        C.finish();
    }

    private static int[] op(int... o) {
        return o;
    }

    /** METHOD 0 has 8 ARGUMENTS, 60 OPERATIONS, 6 HANDLERS; METHOD 7 leaves an array and a FAILURE THING. */
    private static SeldomOps full() {
        SeldomOps x = new SeldomOps();
        for (int c = 0; c < 40; c++) {
            x.constant(c * 3);
        }
        for (int t = 0; t < 8; t++) {
            x.table(t % 2 == 1, 10, 58);
        }
        for (int e = 0; e < 8; e++) {
            x.entry(0, 10 + e, e == 7 ? 52 : 58);
            x.entry(1, 10 + e, 58);
        }
        Programs.method(x, 1, new int[] {0, 0, 0, 0, 0, 0, 0, 0}, Programs.times(50, 7, 7, 0));
        Programs.add(x, 0, op(5, 7, 0), op(23, 0), op(5, 0, 0), op(4), op(31), op(8), op(1, 38), op(34, 1), op(1, 39),
            op(34, 1));
        for (int h = 1; h < 8; h++) {
            Programs.method(x, 4, new int[0], op(0, 2), op(24, 9, 1), op(30, 3), op(31), op(34, 4));
            if (h < 7) {
                x.handler(0, 54, 55, 55, 7 - h);
            } else {
                x.handler(7, 3, 4, 4, 3);
            }
        }
        Programs.judgeAll(x);
        x.walk(7, 99);
        for (int g = 0; g < 8; g++) {
            x.give(10 + g);
        }
        return x;
    }

    private static SeldomOps roomy() {
        SeldomOps x = new SeldomOps();
        x.constant(5);
        x.table(false, 3, 0);
        x.table(true, 0, 0);
        x.entry(1, 3, 0);
        Programs.method(x, 0, new int[] {0}, op(5, 0, 0), op(34, 0));
        Programs.method(x, 5, new int[0], op(0, 1), op(24, 8, 1), op(32), op(34, 5));
        x.judge(0);
        x.judge(1);
        x.walk(1, 2);
        x.give(77);
        return x;
    }

    /** What the calls that change nothing answer. */
    private static List<Long> picture(SeldomOps x) {
        List<Long> seen = new ArrayList<>();
        for (int what = 0; what < 4; what++) {
            seen.add((long) x.count(what));
        }
        for (int m = 0; m < 8; m++) {
            seen.add((long) x.good(m));
            seen.add((long) x.shape(m, 0, -1));
            seen.add((long) x.shape(m, 1, 0));
        }
        seen.add((long) x.shape(0, 59, 1));
        seen.add((long) x.shape(0, 59, -9));
        seen.add((long) x.fault(0));
        seen.add((long) x.fault(1));
        for (int what = 0; what < 9; what++) {
            seen.add((long) x.told(what));
        }
        seen.add(x.value());
        for (int i = 0; i < 3; i++) {
            for (int what = 0; what < 3; what++) {
                seen.add((long) x.thing(i, what));
            }
            seen.add(x.cell(i, 0));
        }
        return seen;
    }

    private static void refused(String what, SeldomOps x, int want, ToLongFunction<SeldomOps> call, long value) {
        List<Long> before = picture(x);
        C.due(what, call.applyAsLong(x), want);
        C.due(what + " changes nothing", picture(x).equals(before) ? 1 : 0, 1);
        C.due(what + ": a walk behind it", x.walk(0, 3000), 0);
        C.due(what + ": its value", x.value(), value);
    }

    private static void whenFull(String what, int want, ToLongFunction<SeldomOps> call) {
        // By the eighth entry, with the eighth GIVEN, then the sixth HANDLER: CONSTANT 38.
        refused(what + ", full", full(), want, call, 38 * 3);
    }

    private static void refusedWhenFull() {
        whenFull("method(6)", BAD, x -> x.method(6));
        whenFull("method(0)", FULL, x -> x.method(0));
        whenFull("argument(0, 0)", FULL, x -> x.argument(0, 0));
        whenFull("op(0, 4)", FULL, x -> x.op(0, 4, 0, 0));
        whenFull("op(0, 36)", BAD, x -> x.op(0, 36, 0, 0));
        whenFull("alter(0, 60)", BAD, x -> x.alter(0, 60, 4, 0, 0));
        whenFull("handler", FULL, x -> x.handler(0, 0, 60, 0, -1));
        whenFull("constant", FULL, x -> x.constant(1));
        whenFull("table", FULL, x -> x.table(false, 0, 0));
        whenFull("entry of a DENSE TABLE", FULL, x -> x.entry(0, 18, 0));
        whenFull("entry of a DENSE TABLE, another key", NO, x -> x.entry(0, 17, 0));
        whenFull("entry of a SPARSE TABLE", FULL, x -> x.entry(1, 18, 0));
        whenFull("entry of a SPARSE TABLE, like", NO, x -> x.entry(1, 17, 0));
        whenFull("give", FULL, x -> x.give(1));
        whenFull("walk without ARGUMENTS", NO, x -> x.walk(7, 9));
        whenFull("walk of no METHOD", BAD, x -> x.walk(8, 9));
        whenFull("judge of no METHOD", BAD, x -> x.judge(8));
    }

    private static void withRoom(String what, int want, ToLongFunction<SeldomOps> call) {
        refused(what + ", with room", roomy(), want, call, 77);
    }

    private static void refusedWithRoom() {
        withRoom("method(-1)", BAD, x -> x.method(-1));
        withRoom("argument of no METHOD", BAD, x -> x.argument(2, 0));
        withRoom("argument of no KIND", BAD, x -> x.argument(0, 5));
        withRoom("op of no METHOD", BAD, x -> x.op(-1, 4, 0, 0));
        withRoom("op(0, -1)", BAD, x -> x.op(0, -1, 0, 0));
        withRoom("alter of no METHOD", BAD, x -> x.alter(2, 0, 4, 0, 0));
        withRoom("alter of no place", BAD, x -> x.alter(0, 2, 4, 0, 0));
        withRoom("alter(0, 0, 36)", BAD, x -> x.alter(0, 0, 36, 0, 0));
        withRoom("handler of no METHOD", BAD, x -> x.handler(2, 0, 2, 0, -1));
        withRoom("handler from", BAD, x -> x.handler(0, 3, 2, 0, -1));
        withRoom("handler to", BAD, x -> x.handler(0, 0, 61, 0, -1));
        withRoom("handler target", BAD, x -> x.handler(0, 0, 2, 60, -1));
        withRoom("handler number", BAD, x -> x.handler(0, 0, 2, 0, 16));
        withRoom("table", BAD, x -> x.table(true, 0, 60));
        withRoom("entry of no TABLE", BAD, x -> x.entry(2, 3, 0));
        withRoom("entry target", BAD, x -> x.entry(0, 3, 60));
        withRoom("entry of a DENSE TABLE", NO, x -> x.entry(0, 4, 0));
        withRoom("entry of a SPARSE TABLE", NO, x -> x.entry(1, 3, 0));
        withRoom("count", BAD, x -> x.count(4));
        withRoom("fault", BAD, x -> x.fault(2));
        withRoom("good", BAD, x -> x.good(2));
        withRoom("shape of no METHOD", BAD, x -> x.shape(2, 0, 0));
        withRoom("shape of no OPERATION", BAD, x -> x.shape(0, 2, 0));
        withRoom("shape of no WORD", BAD, x -> x.shape(0, 0, 12));
        withRoom("walk with too many STEPS", BAD, x -> x.walk(0, 3001));
        withRoom("walk with STEPS below 0", BAD, x -> x.walk(0, -1));
        withRoom("walk with one GIVEN too many", NO, x -> x.walk(1, 9));
        withRoom("told", BAD, x -> x.told(9));
        withRoom("thing", BAD, x -> x.thing(1, 0));
        withRoom("cell", BAD, x -> x.cell(0, 1));
    }

    /** "told .. NO: there was none": a walk that is refused is none. */
    private static void refusedBeforeAnyWalk() {
        SeldomOps x = Programs.single(0, op(0, 4), op(34, 0));
        C.due("not GOOD", x.walk(0, 9), NO);
        x.judge(0);
        x.give(1);
        C.due("GIVEN", x.walk(0, 9), NO);
        C.due("STEPS", x.walk(0, 3001), BAD);
        for (int what = 0; what < 9; what++) {
            C.due("told(" + what + ") behind refused walks", x.told(what), NO);
        }
        C.due("GIVEN stays", x.count(3), 1);
    }

    private static SeldomOps twoGood() {
        SeldomOps x = roomy();
        x.walk(0, 9);
        return x;
    }

    private static void goodIs(String after, int want, ToLongFunction<SeldomOps> call) {
        SeldomOps x = twoGood();
        call.applyAsLong(x);
        C.due("good(0) behind " + after, x.good(0), want);
        C.due("good(1) behind " + after, x.good(1), want);
        C.due("shape(0, 1, 0) behind " + after, x.shape(0, 1, 0), want == 1 ? 0 : NONE);
        C.due("shape(1, 0, -1) behind " + after, x.shape(1, 0, -1), want == 1 ? 0 : NONE);
    }

    /** "is GOOD, till something is told of any METHOD, CONSTANTS, TABLES; then none is." */
    private static void tellingEndsGoodness() {
        goodIs("method", 0, x -> x.method(5));
        goodIs("argument of 0", 0, x -> x.argument(0, 0));
        goodIs("argument of 1", 0, x -> x.argument(1, 0));
        goodIs("op of 0", 0, x -> x.op(0, 34, 0, 0));
        goodIs("op of 1", 0, x -> x.op(1, 34, 0, 0));
        goodIs("alter of 0, to the same", 0, x -> x.alter(0, 1, 34, 0, 0));
        goodIs("alter of 1, to the same", 0, x -> x.alter(1, 3, 34, 5, 0));
        goodIs("handler that covers nothing", 0, x -> x.handler(1, 60, 60, 0, 0));
        goodIs("constant", 0, x -> x.constant(0));
        goodIs("table", 0, x -> x.table(true, 0, 0));
        goodIs("entry of a DENSE TABLE", 0, x -> x.entry(0, 3, 0));
        goodIs("entry of a SPARSE TABLE", 0, x -> x.entry(1, 4, 0));
    }

    private static void othersDoNot() {
        goodIs("count", 1, x -> x.count(0));
        goodIs("judge", 1, x -> x.judge(0));
        goodIs("fault", 1, x -> x.fault(0));
        goodIs("good", 1, x -> x.good(0));
        goodIs("shape", 1, x -> x.shape(0, 0, 0));
        goodIs("give", 1, x -> x.give(0));
        goodIs("walk", 1, x -> x.walk(1, 9));
        goodIs("value", 1, SeldomOps::value);
        goodIs("told", 1, x -> x.told(0));
        goodIs("thing", 1, x -> x.thing(0, 0));
        goodIs("cell", 1, x -> x.cell(0, 0));
        goodIs("numbers far off", 1, x -> x.entry(LEAST, MOST, LEAST));
    }
}
