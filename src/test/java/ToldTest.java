/** Promises 1 to 10: what is told. */
public final class ToldTest {
    private static final Checks C = new Checks();
    private static final int NONE = SeldomOps.NONE, BAD = SeldomOps.BAD, NO = SeldomOps.NO, FULL = SeldomOps.FULL;

    public static void main(String[] args) {
        newObject();
        methods();
        arguments();
        operations();
        altering();
        handlers();
        constants();
        tables();
        denseEntries();
        sparseEntries();
        counts();
        tellingEndsGoodness();
        refusalsKeepGoodness();
        C.finish();
    }

    private static void newObject() {
        SeldomOps x = new SeldomOps();
        for (int what = 0; what < 4; what++) {
            C.due("1 count(" + what + ") of a new object", x.count(what), 0);
        }
        C.due("1 fault(0) of a new object", x.fault(0), NONE);
        C.due("1 told(0) of a new object", x.told(0), NO);
        C.due("1 value() of a new object", x.value(), 0);
        C.due("1 walk of a new object", x.walk(0, 1), BAD);
    }

    private static void methods() {
        SeldomOps x = new SeldomOps();
        C.due("2 method(-1)", x.method(-1), BAD);
        C.due("2 method(6)", x.method(6), BAD);
        C.due("2 method(min)", x.method(Integer.MIN_VALUE), BAD);
        for (int m = 0; m < 8; m++) {
            C.due("2 method", x.method(m % 6), m);
        }
        C.due("2 ninth method", x.method(0), FULL);
        C.due("2 BAD ahead of FULL", x.method(6), BAD);
        C.due("2 count(0)", x.count(0), 8);
    }

    private static void arguments() {
        SeldomOps x = new SeldomOps();
        C.due("3 no method", x.argument(0, 0), BAD);
        x.method(5);
        C.due("3 kind -1", x.argument(0, -1), BAD);
        C.due("3 kind 5", x.argument(0, 5), BAD);
        C.due("3 method -1", x.argument(-1, 0), BAD);
        C.due("3 LONG", x.argument(0, 1), 2);
        C.due("3 DOUBLE", x.argument(0, 3), 4);
        C.due("3 FLOAT", x.argument(0, 2), 5);
        C.due("3 THING", x.argument(0, 4), 6);
        C.due("3 INT", x.argument(0, 0), 7);
        C.due("3 LONG above 8", x.argument(0, 1), FULL);
        C.due("3 INT to 8", x.argument(0, 0), 8);
        C.due("3 INT above 8", x.argument(0, 0), FULL);
        C.due("3 BAD ahead of FULL", x.argument(0, 9), BAD);
    }

    private static void operations() {
        SeldomOps x = new SeldomOps();
        C.due("4 no method", x.op(0, 0, 0, 0), BAD);
        x.method(5);
        C.due("4 op -1", x.op(0, -1, 0, 0), BAD);
        C.due("4 op 36", x.op(0, 36, 0, 0), BAD);
        for (int i = 0; i < 60; i++) {
            C.due("4 op", x.op(0, i % 36, Integer.MIN_VALUE, Integer.MAX_VALUE), i);
        }
        C.due("4 op 61", x.op(0, 0, 0, 0), FULL);
        C.due("4 BAD ahead of FULL", x.op(0, 36, 0, 0), BAD);
    }

    private static void altering() {
        SeldomOps x = Programs.single(0, Programs.op(0, 7), Programs.op(34, 0));
        C.due("5 no method", x.alter(1, 0, 0, 0, 0), BAD);
        C.due("5 no operation", x.alter(0, 2, 0, 0, 0), BAD);
        C.due("5 place -1", x.alter(0, -1, 0, 0, 0), BAD);
        C.due("5 op 36", x.alter(0, 0, 36, 0, 0), BAD);
        C.due("5 op -1", x.alter(0, 0, -1, 0, 0), BAD);
        C.due("5 alter", x.alter(0, 0, 0, -8, 0), 0);
        C.due("5 judge", x.judge(0), 0);
        C.due("5 walk", x.walk(0, 5), 0);
        C.due("5 value", x.value(), -8);
        C.due("5 alter the last", x.alter(0, 1, 31, 0, 0), 1);
        C.due("5 judge", x.judge(0), -13);
    }

    private static void handlers() {
        SeldomOps x = new SeldomOps();
        C.due("6 no method", x.handler(0, 0, 1, 0, 0), BAD);
        x.method(5);
        C.due("6 from -1", x.handler(0, -1, 1, 0, 0), BAD);
        C.due("6 from above to", x.handler(0, 2, 1, 0, 0), BAD);
        C.due("6 to 61", x.handler(0, 0, 61, 0, 0), BAD);
        C.due("6 to -1", x.handler(0, -1, -1, 0, 0), BAD);
        C.due("6 target -1", x.handler(0, 0, 1, -1, 0), BAD);
        C.due("6 target 60", x.handler(0, 0, 1, 60, 0), BAD);
        C.due("6 number -2", x.handler(0, 0, 1, 0, -2), BAD);
        C.due("6 number 16", x.handler(0, 0, 1, 0, 16), BAD);
        C.due("6 edges", x.handler(0, 60, 60, 59, 15), 1);
        C.due("6 edges", x.handler(0, 0, 0, 0, -1), 2);
        for (int h = 3; h <= 6; h++) {
            C.due("6 handler", x.handler(0, 0, 60, 0, 0), h);
        }
        C.due("6 seventh", x.handler(0, 0, 1, 0, 0), FULL);
        C.due("6 BAD ahead of FULL", x.handler(0, 0, 1, 0, 16), BAD);
    }

    private static void constants() {
        SeldomOps x = new SeldomOps();
        for (int c = 0; c < 40; c++) {
            C.due("7 constant", x.constant(Long.MIN_VALUE + c), c);
        }
        C.due("7 constant 41", x.constant(0), FULL);
        Programs.method(x, 1, new int[0], Programs.op(1, 39), Programs.op(34, 1));
        C.due("7 judge", x.judge(0), 0);
        C.due("7 walk", x.walk(0, 9), 0);
        C.due("7 value", x.value(), Long.MIN_VALUE + 39);
    }

    private static void tables() {
        SeldomOps x = new SeldomOps();
        C.due("8 other -1", x.table(true, 0, -1), BAD);
        C.due("8 other 60", x.table(false, 0, 60), BAD);
        for (int t = 0; t < 8; t++) {
            C.due("8 table", x.table(t % 2 == 0, Integer.MAX_VALUE, 59), t);
        }
        C.due("8 table 9", x.table(true, 0, 0), FULL);
        C.due("8 BAD ahead of FULL", x.table(true, 0, 60), BAD);
    }

    private static void denseEntries() {
        SeldomOps x = new SeldomOps();
        C.due("9 no table", x.entry(0, 0, 0), BAD);
        x.table(false, Integer.MAX_VALUE - 1, 0);
        C.due("9 target -1", x.entry(0, 0, -1), BAD);
        C.due("9 target 60", x.entry(0, 0, 60), BAD);
        C.due("9 table -1", x.entry(-1, 0, 0), BAD);
        C.due("9 other key", x.entry(0, Integer.MAX_VALUE, 0), NO);
        C.due("9 low", x.entry(0, Integer.MAX_VALUE - 1, 0), 1);
        C.due("9 same key", x.entry(0, Integer.MAX_VALUE - 1, 0), NO);
        C.due("9 greatest key", x.entry(0, Integer.MAX_VALUE, 59), 2);
        C.due("9 more than numbers go", x.entry(0, Integer.MIN_VALUE, 0), NO);
        x.table(false, -4, 0);
        for (int e = 0; e < 8; e++) {
            C.due("9 dense entry", x.entry(1, -4 + e, 0), e + 1);
        }
        C.due("9 NO ahead of FULL", x.entry(1, 5, 0), NO);
        C.due("9 FULL", x.entry(1, 4, 0), FULL);
        C.due("9 BAD ahead of FULL", x.entry(1, 4, 60), BAD);
    }

    private static void sparseEntries() {
        SeldomOps x = new SeldomOps();
        x.table(true, 99, 0);
        C.due("9 least key", x.entry(0, Integer.MIN_VALUE, 0), 1);
        C.due("9 like", x.entry(0, Integer.MIN_VALUE, 0), NO);
        C.due("9 rising", x.entry(0, -5, 0), 2);
        C.due("9 falling", x.entry(0, -6, 0), NO);
        for (int e = 3; e <= 8; e++) {
            C.due("9 rising", x.entry(0, e * 10, 0), e);
        }
        C.due("9 NO ahead of FULL", x.entry(0, 80, 0), NO);
        C.due("9 FULL", x.entry(0, 81, 0), FULL);
    }

    private static void counts() {
        SeldomOps x = new SeldomOps();
        x.method(0);
        x.method(0);
        x.constant(1);
        x.table(true, 0, 0);
        x.table(true, 0, 0);
        x.table(true, 0, 0);
        for (int g = 0; g < 4; g++) {
            x.give(g);
        }
        C.due("10 METHODS", x.count(0), 2);
        C.due("10 CONSTANTS", x.count(1), 1);
        C.due("10 TABLES", x.count(2), 3);
        C.due("10 GIVEN", x.count(3), 4);
        C.due("10 count(-1)", x.count(-1), BAD);
        C.due("10 count(4)", x.count(4), BAD);
    }

    private static SeldomOps twoGood() {
        SeldomOps x = new SeldomOps();
        x.table(true, 0, 0);
        Programs.method(x, 5, new int[0], Programs.op(34, 5));
        Programs.method(x, 5, new int[0], Programs.op(34, 5));
        Programs.judgeAll(x);
        return x;
    }

    private static void goodIs(String after, SeldomOps x, int want) {
        C.due("good(0) after " + after, x.good(0), want);
        C.due("good(1) after " + after, x.good(1), want);
        C.due("shape(0, 0, -1) after " + after, x.shape(0, 0, -1), want == 1 ? 0 : NONE);
        C.due("walk after " + after, x.walk(0, 9), want == 1 ? 0 : NO);
    }

    private static void tellingEndsGoodness() {
        for (int call = 0; call < 10; call++) {
            SeldomOps x = twoGood();
            switch (call) {
                case 0: x.method(0); break;
                case 1: x.argument(1, 0); break;
                case 2: x.op(1, 4, 0, 0); break;
                case 3: x.alter(1, 0, 34, 5, 0); break;
                case 4: x.handler(1, 0, 0, 0, 0); break;
                case 5: x.constant(0); break;
                case 6: x.table(false, 0, 0); break;
                case 7: x.entry(0, 0, 0); break;
                default: break;
            }
            goodIs("telling call " + call, x, call < 8 ? 0 : 1);
        }
    }

    private static void refusalsKeepGoodness() {
        SeldomOps x = twoGood();
        x.method(6);
        x.argument(1, 5);
        x.op(1, 36, 0, 0);
        x.alter(1, 1, 34, 5, 0);
        x.handler(1, 1, 0, 0, 0);
        x.table(false, 0, 60);
        x.entry(0, 0, 60);
        x.judge(2);
        x.count(9);
        goodIs("refusals", x, 1);
    }
}
