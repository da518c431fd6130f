/** What each operation does in a walk: promises 16, 17, 18 and 20. */
public final class OperationsTest {
    private static final Checks C = new Checks();
    private static final Runs R = new Runs(C);
    private static final int NONE = SeldomOps.NONE;
    private static final int[] NO_ARGUMENTS = {};
    private static final int INT = 0, LONG = 1, FLOAT = 2, DOUBLE = 3, THING = 4;
    private static final int LEAST = Integer.MIN_VALUE, MOST = Integer.MAX_VALUE;

    public static void main(String[] args) {
        fixedValues();
        locals();
        moves();
        intNumbers();
        longNumbers();
        shifts();
        byZero();
        narrowing();
        longComparisons();
        floatComparisons();
        doubleComparisons();
        signTests();
        nullTests();
        denseTables();
        sparseTables();
        arraysOfOneSize();
        arraysInArrays();
        arraysWithoutRoom();
        cellsOfEachSort();
        narrowCells();
        cellFailures();
        storedThings();
        countedCells();
        types();
        failing();
        C.finish();
    }

    private static int[] op(int... o) {
        return o;
    }

    private static void fixedValues() {
        R.gives("0", LEAST, INT, op(0, LEAST), op(34, INT));
        R.gives("2", 0xffc00001, FLOAT, op(2, 0xffc00001), op(34, FLOAT));
        R.gives("4", NONE, THING, op(4), op(34, THING));
        SeldomOps x = new SeldomOps();
        x.constant(-2);
        x.constant(0x7ff8000000000001L);
        Programs.method(x, DOUBLE, NO_ARGUMENTS, op(1, 0), op(3, 1), op(34, DOUBLE));
        C.due("3", R.walked("3", 0, x).value(), 0x7ff8000000000001L);
        x = new SeldomOps();
        x.constant(-2);
        Programs.method(x, LONG, NO_ARGUMENTS, op(1, 0), op(34, LONG));
        C.due("1", R.walked("1", 0, x).value(), -2);
    }

    private static void locals() {
        R.gives("7 runs over", LEAST, INT, op(0, MOST), op(6, 15, INT), op(7, 15, 1), op(5, 15, INT), op(34, INT));
        R.gives("7 by less", MOST, INT, op(0, LEAST), op(6, 0, INT), op(7, 0, -1), op(5, 0, INT), op(34, INT));
        SeldomOps x = new SeldomOps();
        x.constant(Long.MIN_VALUE + 5);
        Programs.method(x, LONG, NO_ARGUMENTS, op(1, 0), op(6, 14, LONG), op(0, 3), op(6, 13, INT), op(5, 14, LONG),
            op(34, LONG));
        C.due("a LONG in 14", R.walked("a LONG in 14", 0, x).value(), Long.MIN_VALUE + 5);
    }

    /** Moves of the digits 1, 2, 3, 4: what lies there then, as a number, the lowest first. */
    private static void moves() {
        String[] want = {"123", "12", "12344", "12434", "14234", "123434", "134234", "341234", "1243"};
        for (int code = 8; code <= 16; code++) {
            int[][] rows = {op(0, 1), op(0, 2), op(0, 3), op(0, 4), op(code)};
            C.due("move " + code, digits(rows, want[code - 8].length()), Long.parseLong(want[code - 8]));
        }
        // LONGS as 2, or as 1 and 3: the same moves keep them whole.
        SeldomOps x = new SeldomOps();
        x.constant(70_000_000_000L);
        x.constant(9);
        Programs.method(x, LONG, NO_ARGUMENTS, op(1, 0), op(1, 1), op(15), op(9), op(9), op(34, LONG));
        C.due("15 on two LONGS", R.walked("15 on two LONGS", 0, x).value(), 9);
        x.alter(0, 4, 17, 1, 1);
        C.due("15 on two LONGS, difference", R.walked("difference", 0, x).value(), 9 - 70_000_000_000L);
        SeldomOps y = new SeldomOps();
        y.constant(70_000_000_000L);
        Programs.method(y, LONG, NO_ARGUMENTS, op(1, 0), op(0, 3), op(12), op(8), op(9), op(18, 4), op(34, LONG));
        C.due("12 on LONG, INT", R.walked("12 on LONG, INT", 0, y).value(), 3);
        y.alter(0, 4, 8, 0, 0);
        C.due("a LONG is not parted", y.judge(0), -13);
        SeldomOps z = new SeldomOps();
        z.constant(70_000_000_000L);
        Programs.method(z, LONG, NO_ARGUMENTS, op(0, 3), op(1, 0), op(14), op(9), op(8), op(34, LONG));
        C.due("14 on INT, LONG", R.walked("14 on INT, LONG", 0, z).value(), 70_000_000_000L);
    }

    /** Joins the INTS on the STACK to one number, ten times for each place. */
    private static long digits(int[][] rows, int count) {
        SeldomOps x = Programs.single(INT, rows);
        for (int k = 0; k < count; k++) {
            Programs.add(x, 0, op(6, k, INT));
        }
        Programs.add(x, 0, op(0, 0));
        for (int k = count - 1; k >= 0; k--) {
            Programs.add(x, 0, op(0, 10), op(17, 2, INT), op(5, k, INT), op(17, 0, INT));
        }
        Programs.add(x, 0, op(34, INT));
        return R.walked("digits", 0, x).value();
    }

    private static void intNumbers() {
        int[] numbers = {0, 1, -1, 7, -7, 3, MOST, LEAST, 0x12345678};
        for (int x : numbers) {
            for (int y : numbers) {
                long[] want = {x + y, x - y, x * y, y == 0 ? 0 : x / y, y == 0 ? 0 : x % y, x & y, x | y, x ^ y};
                for (int a = 0; a < 8; a++) {
                    if (y != 0 || a != 3 && a != 4) {
                        C.due(x + " by " + a + " " + y, R.onArguments(INT, new int[] {0, 0}, op(17, a, INT), x, y), want[a]);
                    }
                }
            }
            C.due("less " + x, R.onArguments(INT, new int[] {0}, op(17, 11, INT), x), -x);
        }
    }

    private static void longNumbers() {
        long[] numbers = {0, 1, -1, 10, -3, Long.MAX_VALUE, Long.MIN_VALUE, 0x123456789abcdefL, 1L << 32};
        for (long x : numbers) {
            for (long y : numbers) {
                long[] want = {x + y, x - y, x * y, y == 0 ? 0 : x / y, y == 0 ? 0 : x % y, x & y, x | y, x ^ y};
                for (int a = 0; a < 8; a++) {
                    if (y != 0 || a != 3 && a != 4) {
                        C.due(x + " by " + a + " " + y, R.onArguments(LONG, new int[] {1, 1}, op(17, a, LONG), x, y),
                            want[a]);
                    }
                }
            }
            C.due("less " + x, R.onArguments(LONG, new int[] {1}, op(17, 11, LONG), x), -x);
        }
    }

    private static void shifts() {
        int[] counts = {0, 1, 31, 32, 33, 63, 64, 65, -1, -32, -33, LEAST, MOST};
        for (int n : counts) {
            int i = 0x89abcdef;
            long l = 0x89abcdef01234567L;
            C.due("INT left " + n, R.onArguments(INT, new int[] {0, 0}, op(17, 8, INT), i, n), i << (n & 31));
            C.due("INT right " + n, R.onArguments(INT, new int[] {0, 0}, op(17, 9, INT), i, n), i >> (n & 31));
            C.due("INT with 0s " + n, R.onArguments(INT, new int[] {0, 0}, op(17, 10, INT), i, n), i >>> (n & 31));
            C.due("LONG left " + n, R.onArguments(LONG, new int[] {1, 0}, op(17, 8, LONG), l, n), l << (n & 63));
            C.due("LONG right " + n, R.onArguments(LONG, new int[] {1, 0}, op(17, 9, LONG), l, n), l >> (n & 63));
            C.due("LONG with 0s " + n, R.onArguments(LONG, new int[] {1, 0}, op(17, 10, LONG), l, n), l >>> (n & 63));
        }
    }

    private static void byZero() {
        for (int a = 3; a <= 4; a++) {
            R.fails("INT by 0", 0, 2, op(0, 5), op(0, 0), op(17, a, INT), op(34, 5));
            SeldomOps x = new SeldomOps();
            x.constant(0);
            Programs.method(x, 5, NO_ARGUMENTS, op(1, 0), op(1, 0), op(17, a, LONG), op(34, 5));
            C.due("LONG by 0", R.walked("LONG by 0", 1, x).told(0), 0);
        }
    }

    private static void narrowing() {
        int[] numbers = {0, 127, 128, 255, 256, -128, -129, 32767, 32768, 65535, 65536, -32769, MOST, LEAST};
        for (int n : numbers) {
            C.due("8 bits of " + n, R.onArguments(INT, new int[] {0}, op(18, 0), n), (byte) n);
            C.due("16 bits of " + n, R.onArguments(INT, new int[] {0}, op(18, 1), n), (short) n);
            C.due("16 bits without sign of " + n, R.onArguments(INT, new int[] {0}, op(18, 2), n), (char) n);
            C.due("as LONG " + n, R.onArguments(LONG, new int[] {0}, op(18, 4), n), n);
        }
        long[] longs = {0, 1L << 31, 1L << 32, -1, Long.MIN_VALUE, Long.MAX_VALUE};
        for (long n : longs) {
            C.due("32 bits of " + n, R.onArguments(INT, new int[] {1}, op(18, 3), n), (int) n);
        }
    }

    private static void longComparisons() {
        long[] rising = {Long.MIN_VALUE, -1L << 32, -1, 0, 1, 1L << 32, Long.MAX_VALUE};
        for (int i = 0; i < rising.length; i++) {
            for (int j = 0; j < rising.length; j++) {
                long got = R.onArguments(INT, new int[] {1, 1}, op(19, 0), rising[i], rising[j]);
                C.due(rising[i] + " to " + rising[j], got, Integer.signum(i - j));
            }
        }
    }

    private static int dueOrder(double x, double y, int ifNone) {
        return x < y ? -1 : x > y ? 1 : x == y ? 0 : ifNone;
    }

    private static void floatComparisons() {
        float[] numbers = {Float.NEGATIVE_INFINITY, -Float.MAX_VALUE, -1, -Float.MIN_VALUE, -0.0f, 0, Float.MIN_VALUE,
            1, 1.5f, Float.MAX_VALUE, Float.POSITIVE_INFINITY, Float.NaN, Float.intBitsToFloat(0xff800001)};
        for (float x : numbers) {
            for (float y : numbers) {
                for (int a = 1; a <= 2; a++) {
                    long got = R.onArguments(INT, new int[] {2, 2}, op(19, a), Float.floatToRawIntBits(x),
                        Float.floatToRawIntBits(y));
                    C.due(x + " to " + y + " by " + a, got, dueOrder(x, y, a == 1 ? -1 : 1));
                }
            }
        }
    }

    private static void doubleComparisons() {
        double[] numbers = {Double.NEGATIVE_INFINITY, -Double.MAX_VALUE, -1, -Double.MIN_VALUE, -0.0, 0, Double.MIN_VALUE,
            1, 1.5, Double.MAX_VALUE, Double.POSITIVE_INFINITY, Double.NaN, Double.longBitsToDouble(-1L)};
        for (double x : numbers) {
            for (double y : numbers) {
                for (int a = 3; a <= 4; a++) {
                    long got = R.onArguments(INT, new int[] {3, 3}, op(19, a), Double.doubleToRawLongBits(x),
                        Double.doubleToRawLongBits(y));
                    C.due(x + " to " + y + " by " + a, got, dueOrder(x, y, a == 3 ? -1 : 1));
                }
            }
        }
    }

    private static void signTests() {
        int[] numbers = {0, 1, -1, MOST, LEAST};
        for (int n : numbers) {
            boolean[] goes = {n == 0, n != 0, n < 0, n >= 0, n > 0, n <= 0};
            for (int b = 0; b < 6; b++) {
                R.gives(n + " by 21 " + b, goes[b] ? 1 : 0, INT, op(0, n), op(21, 4, b), op(0, 0), op(34, INT), op(0, 1),
                    op(34, INT));
            }
        }
    }

    private static void nullTests() {
        for (int b = 0; b < 2; b++) {
            R.gives("null by 22", b == 0 ? 1 : 0, INT, op(4), op(22, 4, b), op(0, 0), op(34, INT), op(0, 1), op(34, INT));
            R.gives("a THING by 22", b, INT, op(30, 0), op(22, 4, b), op(0, 0), op(34, INT), op(0, 1), op(34, INT));
        }
    }

    /** Target 2 gives 0, 4 gives 1, 6 gives 2. */
    private static long byTable(SeldomOps x, int key) {
        Programs.method(x, INT, new int[] {0}, op(5, 0, INT), op(23, 0), op(0, 0), op(34, INT), op(0, 1), op(34, INT),
            op(0, 2), op(34, INT));
        return R.walked("by TABLE", 0, x, key).value();
    }

    private static SeldomOps dense(int low, int... targets) {
        SeldomOps x = new SeldomOps();
        x.table(false, low, 2);
        for (int k = 0; k < targets.length; k++) {
            x.entry(0, low + k, targets[k]);
        }
        return x;
    }

    private static void denseTables() {
        C.due("low", byTable(dense(MOST - 1, 4, 6), MOST - 1), 1);
        C.due("the greatest", byTable(dense(MOST - 1, 4, 6), MOST), 2);
        C.due("the least, which is none", byTable(dense(MOST - 1, 4, 6), LEAST), 0);
        C.due("below low", byTable(dense(MOST - 1, 4, 6), MOST - 2), 0);
        C.due("the least as low", byTable(dense(LEAST, 4, 6), LEAST), 1);
        C.due("behind it", byTable(dense(LEAST, 4, 6), LEAST + 1), 2);
        C.due("behind all", byTable(dense(LEAST, 4, 6), LEAST + 2), 0);
        C.due("far from it", byTable(dense(LEAST, 4, 6), MOST), 0);
        C.due("without entries", byTable(dense(5), 5), 0);
    }

    private static SeldomOps sparse() {
        SeldomOps x = new SeldomOps();
        x.table(true, 0, 2);
        x.entry(0, LEAST, 4);
        x.entry(0, 0, 6);
        x.entry(0, MOST, 4);
        return x;
    }

    private static void sparseTables() {
        C.due("the least", byTable(sparse(), LEAST), 1);
        C.due("0", byTable(sparse(), 0), 2);
        C.due("the greatest", byTable(sparse(), MOST), 1);
        C.due("between", byTable(sparse(), 1), 0);
        C.due("between", byTable(sparse(), -1), 0);
    }

    private static void arraysOfOneSize() {
        SeldomOps x = R.walked("100 cells", 0, Programs.single(THING, op(0, 100), op(24, 15, 1), op(34, THING)));
        C.due("100 cells", x.thing(0, 1), 100);
        C.due("100 cells", x.thing(0, 0), 15);
        C.due("the last cell", x.cell(0, 99), 0);
        x = R.walked("0 cells", 0, Programs.single(THING, op(0, 0), op(24, 8, 1), op(34, THING)));
        C.due("0 cells", x.thing(0, 1), 0);
        C.due("0 cells", x.cell(0, 0), SeldomOps.BAD);
        R.fails("101 cells", 7, 1, op(0, 101), op(24, 8, 1), op(34, 5));
        R.fails("below 0", 4, 1, op(0, -1), op(24, 8, 1), op(34, 5));
        x = R.walked("rows that are not made", 0, Programs.single(THING, op(0, 2), op(24, 26, 1), op(34, THING)));
        C.due("null cells", x.cell(0, 1), NONE);
        C.due("TYPE", x.thing(0, 0), 26);
    }

    private static void arraysInArrays() {
        SeldomOps x = R.walked("2 by 2 by 3", 0, Programs.single(THING, op(0, 2), op(0, 2), op(0, 3), op(24, 29, 3),
            op(34, THING)));
        int[][] want = {{29, 2}, {21, 2}, {13, 3}, {13, 3}, {21, 2}, {13, 3}, {13, 3}};
        C.due("THINGS", x.told(5), 7);
        for (int i = 0; i < want.length; i++) {
            C.due("TYPE of " + i, x.thing(i, 0), want[i][0]);
            C.due("cells of " + i, x.thing(i, 1), want[i][1]);
        }
        C.due("cell", x.cell(0, 0), 1);
        C.due("cell", x.cell(0, 1), 4);
        C.due("cell", x.cell(1, 0), 2);
        C.due("cell", x.cell(1, 1), 3);
        C.due("cell", x.cell(4, 1), 6);
        C.due("cell", x.cell(6, 2), 0);
        x = R.walked("two of three sizes", 0, Programs.single(THING, op(0, 1), op(0, 2), op(24, 24, 2), op(34, THING)));
        C.due("THINGS", x.told(5), 2);
        C.due("null row", x.cell(1, 1), NONE);
        x = R.walked("3 rows of 0", 0, Programs.single(THING, op(0, 3), op(0, 0), op(0, 500), op(24, 24, 3), op(34, THING)));
        C.due("THINGS", x.told(5), 4);
        x = R.walked("0 rows of 500", 0, Programs.single(THING, op(0, 0), op(0, 500), op(0, MOST), op(24, 24, 3),
            op(34, THING)));
        C.due("THINGS", x.told(5), 1);
    }

    private static void arraysWithoutRoom() {
        SeldomOps x = R.walked("60 THINGS", 0, Programs.single(5, op(0, 59), op(0, 100), op(24, 16, 2), op(34, 5)));
        C.due("60 THINGS", x.told(5), 60);
        R.fails("61 THINGS", 7, 2, op(0, 60), op(0, 0), op(24, 16, 2), op(34, 5));
        R.fails("61 THINGS of three", 7, 3, op(0, 6), op(0, 9), op(0, 0), op(24, 24, 3), op(34, 5));
        R.fails("a row of 101", 7, 2, op(0, 1), op(0, 101), op(24, 16, 2), op(34, 5));
        R.fails("sizes that run over", 7, 3, op(0, MOST), op(0, MOST), op(0, MOST), op(24, 24, 3), op(34, 5));
        R.fails("sizes that run over", 7, 3, op(0, 65536), op(0, 65536), op(0, 0), op(24, 24, 3), op(34, 5));
        R.fails("below 0 behind 0", 4, 3, op(0, 0), op(0, 0), op(0, -1), op(24, 24, 3), op(34, 5));
        R.fails("below 0 ahead of 7", 4, 2, op(0, 999), op(0, -1), op(24, 16, 2), op(34, 5));
        x = Programs.single(5, op(0, 0), op(24, 8, 1), op(0, 59), op(0, 0), op(24, 16, 2), op(34, 5));
        R.walked("with what is there", 1, x);
        C.due("nothing of it is made but the FAILURE THING", x.told(5), 2);
        C.due("the FAILURE THING", x.thing(1, 0), -93);
    }

    private static void cellsOfEachSort() {
        long bits = 0xfedcba9876543210L;
        for (int e = 0; e < 4; e++) {
            SeldomOps x = new SeldomOps();
            Programs.method(x, e, new int[] {e}, op(0, 3), op(24, 8 + e, 1), op(10), op(0, 2), op(5, 0, e), op(26, 0, e),
                op(0, 2), op(25, 0, e), op(34, e));
            R.walked("a cell", 0, x, bits);
            long want = e == 1 || e == 3 ? bits : (int) bits;
            C.due("got from a cell of " + e, x.value(), want);
            C.due("cell of " + e, x.cell(0, 2), want);
            C.due("the one before it", x.cell(0, 1), 0);
        }
    }

    private static void narrowCells() {
        int[] numbers = {0, 127, 128, 255, -129, 32767, 32768, 65535, 65536, MOST, LEAST};
        for (int n : numbers) {
            int[] want = {(byte) n, (short) n, (char) n};
            for (int e = 5; e < 8; e++) {
                SeldomOps x = Programs.single(INT, op(0, 1), op(24, 8 + e, 1), op(10), op(0, 0), op(0, n), op(26, 0, e),
                    op(0, 0), op(25, 0, e), op(34, INT));
                R.walked("a narrow cell", 0, x);
                C.due(n + " in a narrow cell " + e, x.value(), want[e - 5]);
                C.due(n + " as narrow cell " + e, x.cell(0, 0), want[e - 5]);
            }
        }
    }

    private static void cellFailures() {
        R.fails("25 null", 1, 2, op(4), op(0, -1), op(25, 0, INT), op(34, 5));
        R.fails("26 null", 1, 3, op(4), op(0, -1), op(0, 0), op(26, 0, 7), op(34, 5));
        R.fails("25 a FAILURE THING", 5, 2, op(30, 0), op(0, 0), op(25, 0, INT), op(34, 5));
        R.fails("26 a FAILURE THING", 5, 3, op(30, 0), op(0, 0), op(4), op(26, 0, THING), op(34, 5));
        R.fails("other cells ahead of no cell", 5, 3, op(0, 1), op(24, 8, 1), op(0, 1), op(25, 0, FLOAT), op(34, 5));
        R.fails("BYTES are no CHARS", 5, 3, op(0, 1), op(24, 13, 1), op(0, 0), op(25, 0, 7), op(34, 5));
        R.fails("INTS are no BYTES", 5, 3, op(0, 1), op(24, 8, 1), op(0, 0), op(25, 0, 5), op(34, 5));
        R.fails("a row of rows has THINGS", 5, 3, op(0, 1), op(24, 16, 1), op(0, 0), op(25, 0, INT), op(34, 5));
        R.fails("a row of INTS has no THINGS", 5, 3, op(0, 1), op(24, 8, 1), op(0, 0), op(25, 0, THING), op(34, 5));
        R.fails("no such cell", 2, 3, op(0, 1), op(24, 8, 1), op(0, 1), op(25, 0, INT), op(34, 5));
        R.fails("no cell below 0", 2, 3, op(0, 1), op(24, 8, 1), op(0, LEAST), op(25, 0, INT), op(34, 5));
        R.fails("no such cell to fill", 2, 4, op(0, 0), op(24, 8, 1), op(0, 0), op(0, 7), op(26, 0, INT), op(34, 5));
    }

    private static void storedThings() {
        int[] make = op(24, 24, 1);
        SeldomOps x = Programs.single(THING, op(0, 2), make, op(10), op(0, 1), op(0, 3), op(24, 16, 1), op(26, 0, THING),
            op(10), op(0, 0), op(4), op(26, 0, THING), op(0, 1), op(25, 0, THING), op(34, THING));
        R.walked("a row stored", 0, x);
        C.due("the row", x.value(), 1);
        C.due("cell 1", x.cell(0, 1), 1);
        C.due("cell 0", x.cell(0, 0), NONE);
        R.fails("two DIMENSIONS less", 3, 6, op(0, 2), make, op(10), op(0, 1), op(0, 3), op(24, 8, 1), op(26, 0, THING),
            op(34, 5));
        R.fails("as many DIMENSIONS", 3, 6, op(0, 2), make, op(10), op(0, 1), op(0, 3), op(24, 24, 1), op(26, 0, THING),
            op(34, 5));
        R.fails("other cells inside", 3, 6, op(0, 2), make, op(10), op(0, 1), op(0, 3), op(24, 17, 1), op(26, 0, THING),
            op(34, 5));
        R.fails("a FAILURE THING", 3, 5, op(0, 2), make, op(10), op(0, 1), op(30, 0), op(26, 0, THING), op(34, 5));
        R.fails("2 ahead of 3", 2, 5, op(0, 2), make, op(10), op(0, 2), op(30, 0), op(26, 0, THING), op(34, 5));
    }

    private static void countedCells() {
        R.gives("27", 7, INT, op(0, 7), op(24, 11, 1), op(27), op(34, INT));
        R.gives("27 of none", 0, INT, op(0, 0), op(24, 11, 1), op(27), op(34, INT));
        R.fails("27 null", 1, 1, op(4), op(27), op(34, 5));
        R.fails("27 of a FAILURE THING", 5, 1, op(30, 3), op(27), op(34, 5));
    }

    private static void types() {
        R.gives("28 of that TYPE", 1, INT, op(0, 7), op(24, 18, 1), op(28, 18), op(34, INT));
        R.gives("28 of another TYPE", 0, INT, op(0, 7), op(24, 18, 1), op(28, 10), op(34, INT));
        R.gives("28 null", 0, INT, op(4), op(28, 8), op(34, INT));
        R.gives("28 of a FAILURE THING", 0, INT, op(30, 8), op(28, 8), op(34, INT));
        R.gives("29 of that TYPE", 0, THING, op(0, 7), op(24, 18, 1), op(29, 18), op(34, THING));
        R.gives("29 null", NONE, THING, op(4), op(29, 18), op(34, THING));
        R.fails("29 of another TYPE", 5, 2, op(0, 7), op(24, 18, 1), op(29, 26), op(34, 5));
        R.fails("29 of a FAILURE THING", 5, 1, op(30, 8), op(29, 8), op(34, 5));
    }

    private static void failing() {
        for (int number = 0; number < 16; number++) {
            R.fails("31 of " + number, number, 1, op(30, number), op(31));
        }
        R.fails("31 null", 1, 1, op(4), op(31));
        R.fails("31 of an array", 5, 2, op(0, 1), op(24, 8, 1), op(31));
        SeldomOps x = R.walked("the same THING", 0, catching(op(30, 9)));
        C.due("the same THING", x.value(), 0);
        C.due("THINGS", x.told(5), 1);
        x = R.walked("a new THING for null", 0, catching(op(4)));
        C.due("a new THING for null", x.thing((int) x.value(), 0), -99);
    }

    private static SeldomOps catching(int[] push) {
        SeldomOps x = Programs.single(THING, push, op(31), op(34, THING));
        x.handler(0, 1, 2, 2, -1);
        return x;
    }
}
