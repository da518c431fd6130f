/** OPERATIONS 0 to 7 and 17 to 23 in walks: where numbers run over, where counts of bits and keys of TABLES end. */
public final class BoundsOfNumbersTest {
    private static final Checks C = new Checks();
    private static final Runs R = new Runs(C);
    private static final int INT = 0, LONG = 1, FLOAT = 2, DOUBLE = 3, THING = 4;
    private static final int LEAST = Integer.MIN_VALUE, MOST = Integer.MAX_VALUE;
    private static final long LEAST_LONG = Long.MIN_VALUE, MOST_LONG = Long.MAX_VALUE;

    public static void main(String[] args) {
        fixedNumbers();
        firstAndLastLocals();
        localsBesideOneAnother();
        increasesThatRunOver();
        intsThatRunOver();
        longsThatRunOver();
        towardsZero();
        byZeroAndJustNot();
        countsOfIntShifts();
        countsOfLongShifts();
        lowestBits();
        longsCompared();
        floatsCompared();
        doublesCompared();
        signs();
        nulls();
        denseTablesAtBothEnds();
        sparseTablesAtBothEnds();
        tablesWithoutEntries();
        C.finish();
    }

    private static int[] op(int... o) {
        return o;
    }

    private static void fixedNumbers() {
        for (int a : new int[] {LEAST, -1, 0, 1, MOST}) {
            R.gives("0 of " + a, a, INT, op(0, a, -7), op(34, INT));
            R.gives("2 of " + a, a, FLOAT, op(2, a, -7), op(34, FLOAT));
        }
        R.gives("4", SeldomOps.NONE, THING, op(4, 5, 5), op(34, THING));
    }

    private static void firstAndLastLocals() {
        for (int kind = INT; kind <= DOUBLE; kind++) {
            long bits = Programs.width(kind) == 2 ? LEAST_LONG + 1 : kind == FLOAT ? -2 : LEAST;
            int[] push = Programs.width(kind) == 2 ? op(kind, 0) : op(kind, (int) bits);
            for (int j : new int[] {0, 16 - Programs.width(kind)}) {
                SeldomOps x = Runs.withConstant(bits, kind, push, op(6, j, kind), op(5, j, kind), op(34, kind));
                C.due("KIND " + kind + " in LOCAL " + j, R.walked("LOCAL " + j, 0, x).value(), bits);
            }
        }
    }

    /** A LONG in 13 and 14, with INTS just below and just above it. */
    private static void localsBesideOneAnother() {
        int[] results = {INT, LONG, INT};
        int[] places = {12, 13, 15};
        long[] due = {12, -1L << 40, 15};
        for (int k = 0; k < 3; k++) {
            SeldomOps x = Runs.withConstant(-1L << 40, results[k], op(1), op(6, 13, LONG), op(0, 12), op(6, 12, INT),
                op(0, 14),
                op(6, 15, INT), op(7, 15, 1), op(5, places[k], results[k]), op(34, results[k]));
            C.due("LOCAL " + places[k], R.walked("beside one another", 0, x).value(), due[k]);
        }
    }

    /** "7 () the INT in LOCAL a becomes b more." */
    private static void increasesThatRunOver() {
        int[][] rows = {
            {MOST, 1, LEAST}, {MOST - 1, 1, MOST}, {LEAST, -1, MOST}, {LEAST + 1, -1, LEAST}, {0, LEAST, LEAST},
            {-1, LEAST, MOST}, {LEAST, LEAST, 0}, {MOST, MOST, -2}, {7, 0, 7}, {0, MOST, MOST},
        };
        for (int[] row : rows) {
            R.gives(row[0] + " and " + row[1] + " more", row[2], INT, op(0, row[0]), op(6, 15, INT), op(7, 15, row[1]),
                op(5, 15, INT), op(34, INT));
        }
    }

    private static void ints(int a, long x, long y, long want) {
        C.due(x + " by 17 " + a + " " + y, R.onArguments(INT, new int[] {INT, INT}, op(17, a, INT), x, y), want);
    }

    private static void longs(int a, long x, long y, long want) {
        C.due(x + " by 17 " + a + " " + y, R.onArguments(LONG, new int[] {LONG, LONG}, op(17, a, LONG), x, y), want);
    }

    private static void negated(int kind, long x, long want) {
        C.due("less " + x, R.onArguments(kind, new int[] {kind}, op(17, 11, kind), x), want);
    }

    /** "All run over." */
    private static void intsThatRunOver() {
        ints(0, MOST, 1, LEAST);
        ints(0, MOST, 0, MOST);
        ints(0, LEAST, -1, MOST);
        ints(0, LEAST, LEAST, 0);
        ints(1, LEAST, 1, MOST);
        ints(1, LEAST, 0, LEAST);
        ints(1, 0, LEAST, LEAST);
        ints(1, -1, LEAST, MOST);
        ints(2, 65536, 65536, 0);
        ints(2, 65536, 32768, LEAST);
        ints(2, 65536, 32767, 2147418112);
        ints(2, 46341, 46341, -2147479015);
        ints(2, LEAST, -1, LEAST);
        ints(2, MOST, MOST, 1);
        ints(3, LEAST, -1, LEAST);
        ints(3, LEAST, 1, LEAST);
        ints(3, LEAST + 1, -1, MOST);
        ints(4, LEAST, -1, 0);
        negated(INT, LEAST, LEAST);
        negated(INT, LEAST + 1, MOST);
        negated(INT, MOST, LEAST + 1);
        negated(INT, 0, 0);
    }

    private static void longsThatRunOver() {
        longs(0, MOST_LONG, 1, LEAST_LONG);
        longs(0, MOST, 1, 2147483648L);
        longs(0, LEAST_LONG, -1, MOST_LONG);
        longs(1, LEAST_LONG, 1, MOST_LONG);
        longs(1, LEAST, 1, -2147483649L);
        longs(1, 0, LEAST_LONG, LEAST_LONG);
        longs(2, 1L << 32, 1L << 32, 0);
        longs(2, 1L << 32, 1L << 31, LEAST_LONG);
        longs(2, 65536, 65536, 1L << 32);
        longs(2, LEAST_LONG, -1, LEAST_LONG);
        longs(3, LEAST_LONG, -1, LEAST_LONG);
        longs(3, LEAST, -1, 2147483648L);
        longs(4, LEAST_LONG, -1, 0);
        negated(LONG, LEAST_LONG, LEAST_LONG);
        negated(LONG, LEAST, 2147483648L);
        negated(LONG, MOST_LONG, LEAST_LONG + 1);
    }

    /** "3 quotient, 4 rest (both towards 0 ..)" */
    private static void towardsZero() {
        int[][] rows = {
            {7, 2, 3, 1}, {-7, 2, -3, -1}, {7, -2, -3, 1}, {-7, -2, 3, -1}, {1, 2, 0, 1}, {-1, 2, 0, -1}, {6, 3, 2, 0},
            {-6, 3, -2, 0}, {0, -5, 0, 0}, {LEAST, MOST, -1, -1}, {MOST, LEAST, 0, MOST}, {LEAST, LEAST, 1, 0},
            {LEAST, 2, -1 << 30, 0},
        };
        for (int[] row : rows) {
            ints(3, row[0], row[1], row[2]);
            ints(4, row[0], row[1], row[3]);
            longs(3, row[0], row[1], row[2]);
            longs(4, row[0], row[1], row[3]);
        }
        longs(3, LEAST_LONG, MOST_LONG, -1);
        longs(4, LEAST_LONG, MOST_LONG, -1);
    }

    /** "FAILURE 0 by 0", but by nothing else, and for no other one. */
    private static void byZeroAndJustNot() {
        for (int x : new int[] {0, 1, LEAST}) {
            for (int a = 3; a <= 4; a++) {
                R.fails("INT by 0", 0, 2, op(0, x), op(0, 0), op(17, a, INT), op(34, 5));
                SeldomOps y = R.walked("LONG by 0", 1, Programs.single(5, op(0, x), op(18, 4), op(0, 0), op(18, 4),
                    op(17, a, LONG), op(34, 5)));
                R.toldIs("LONG by 0", y, 0, 4, 0);
            }
        }
        longs(3, 1L << 33, 1L << 32, 2);
        longs(4, 1L << 33, 1L << 32, 0);
        longs(3, 5, LEAST_LONG, 0);
        for (int a : new int[] {0, 1, 6, 7}) {
            ints(a, 5, 0, 5);
            longs(a, 5, 0, 5);
        }
        for (int a : new int[] {2, 5}) {
            ints(a, 5, 0, 0);
            longs(a, 5, 0, 0);
        }
    }

    /** "shifted by the lowest 5 (LONG: 6) bits of the INT: left, right with the sign, right with 0s" */
    private static void countsOfIntShifts() {
        int[] counts = {0, 1, 31, 32, 33, 63, 64, -1, -31, -32, LEAST, LEAST + 1, MOST};
        int[] lowest = {0, 1, 31, 0, 1, 31, 0, 31, 1, 0, 0, 1, 31};
        int[] left = {-2147483645, 6, LEAST};
        int[] signed = {-2147483645, -1073741823, -1};
        int[] zeros = {-2147483645, 1073741825, 1};
        for (int k = 0; k < counts.length; k++) {
            int row = Math.min(lowest[k], 2);
            ints(8, LEAST + 3, counts[k], left[row]);
            ints(9, LEAST + 3, counts[k], signed[row]);
            ints(10, LEAST + 3, counts[k], zeros[row]);
        }
        ints(9, MOST, 31, 0);
        ints(9, MOST, 30, 1);
    }

    private static void longShift(int a, long x, int count, long want) {
        C.due(x + " by 17 " + a + " " + count, R.onArguments(LONG, new int[] {LONG, INT}, op(17, a, LONG), x, count), want);
    }

    private static void countsOfLongShifts() {
        int[] counts = {0, 1, 31, 32, 33, 63, 64, 65, -1, -63, -64, LEAST, MOST};
        int[] lowest = {0, 1, 31, 32, 33, 63, 0, 1, 63, 1, 0, 0, 63};
        for (int k = 0; k < counts.length; k++) {
            int n = lowest[k];
            long power = n == 63 ? LEAST_LONG : java.math.BigInteger.TWO.pow(n).longValue();
            longShift(8, 1, counts[k], power);
            longShift(9, LEAST_LONG, counts[k], n == 0 ? LEAST_LONG : -java.math.BigInteger.TWO.pow(63 - n).longValue());
            longShift(10, LEAST_LONG, counts[k], n == 0 ? LEAST_LONG : java.math.BigInteger.TWO.pow(63 - n).longValue());
        }
        longShift(9, -1, 63, -1);
        longShift(10, -1, 63, 1);
        longShift(10, -1, 32, 4294967295L);
    }

    private static void converted(int a, int from, int to, long x, long want) {
        C.due(x + " by 18 " + a, R.onArguments(to, new int[] {from}, op(18, a), x), want);
    }

    /** "18 by a: (I -> I) its lowest 0: 8 bits with sign, 1: 16 bits with sign, 2: 16 bits without; 3 .. 32 bits" */
    private static void lowestBits() {
        long[][] eight = {{127, 127}, {128, -128}, {255, -1}, {256, 0}, {-128, -128}, {-129, 127}, {-1, -1}, {LEAST, 0},
            {MOST, -1}};
        long[][] sixteen = {{32767, 32767}, {32768, -32768}, {65535, -1}, {65536, 0}, {-32768, -32768}, {-32769, 32767},
            {LEAST, 0}, {MOST, -1}};
        long[][] without = {{32767, 32767}, {32768, 32768}, {65535, 65535}, {65536, 0}, {-1, 65535}, {-65536, 0},
            {LEAST, 0}, {MOST, 65535}};
        long[][] lowest = {{MOST, MOST}, {2147483648L, LEAST}, {4294967295L, -1}, {4294967296L, 0},
            {-2147483649L, MOST}, {LEAST_LONG, 0}, {MOST_LONG, -1}};
        for (long[] row : eight) {
            converted(0, INT, INT, row[0], row[1]);
        }
        for (long[] row : sixteen) {
            converted(1, INT, INT, row[0], row[1]);
        }
        for (long[] row : without) {
            converted(2, INT, INT, row[0], row[1]);
        }
        for (long[] row : lowest) {
            converted(3, LONG, INT, row[0], row[1]);
        }
        for (int x : new int[] {LEAST, -1, 0, MOST}) {
            converted(4, INT, LONG, x, x);
        }
    }

    private static void compared(int kind, int a, long x, long y, int want) {
        C.due(Long.toHexString(x) + " by 19 " + a + " " + Long.toHexString(y),
            R.onArguments(INT, new int[] {kind, kind}, op(19, a), x, y), want);
    }

    private static void risesBy(int kind, int a, long... rising) {
        for (int i = 0; i < rising.length; i++) {
            for (int j = 0; j < rising.length; j++) {
                compared(kind, a, rising[i], rising[j], Integer.signum(i - j));
            }
        }
    }

    /** "19 (K K -> I) -1, 0, 1 as the first is less, like, greater" */
    private static void longsCompared() {
        risesBy(LONG, 0, LEAST_LONG, LEAST_LONG + 1, -4294967297L, -4294967296L, -1, 0, 1, MOST, 2147483648L, 4294967296L,
            MOST_LONG - 1, MOST_LONG);
    }

    /** "(0.0 and -0.0 are alike; if one is no number: -1 for 1, 3; 1 for 2, 4)", FLOATS. */
    private static void floatsCompared() {
        for (int a = 1; a <= 2; a++) {
            risesBy(FLOAT, a, 0xff800000, 0xff7fffff, 0xbf800001, 0xbf800000, 0x80800000, 0x807fffff, 0x80000001, 0, 1,
                0x7fffff,
                0x800000, 0x3f800000, 0x3f800001, 0x7f7fffff, 0x7f800000);
            compared(FLOAT, a, 0x80000000, 0, 0);
            compared(FLOAT, a, 0, 0x80000000, 0);
            compared(FLOAT, a, 0x80000000, 0x80000000, 0);
            compared(FLOAT, a, 0x80000000, 1, -1);
            compared(FLOAT, a, 0x80000000, 0x80000001, 1);
            noNumbers(FLOAT, a, new long[] {0x7f800001, 0x7fc00000, 0x7fffffff, 0xff800001, 0xffffffff},
                new long[] {0, 0x7f800000, 0xff800000, 0x7fc00000, 0xffc00000});
        }
    }

    private static void noNumbers(int kind, int a, long[] none, long[] others) {
        for (long x : none) {
            compared(kind, a, x, x, a % 2 == 1 ? -1 : 1);
            for (long y : others) {
                compared(kind, a, x, y, a % 2 == 1 ? -1 : 1);
                compared(kind, a, y, x, a % 2 == 1 ? -1 : 1);
            }
        }
    }

    private static void doublesCompared() {
        long sign = LEAST_LONG;
        for (int a = 3; a <= 4; a++) {
            risesBy(DOUBLE, a, sign | 0x7ff0000000000000L, sign | 0x7fefffffffffffffL, sign | 0x3ff0000000000001L,
                sign | 0x3ff0000000000000L,
                sign | 1, 0, 1, 0xffffffffL, 0x100000000L, 0x3ff0000000000000L, 0x3ff0000000000001L, 0x7fefffffffffffffL,
                0x7ff0000000000000L);
            compared(DOUBLE, a, sign, 0, 0);
            compared(DOUBLE, a, 0, sign, 0);
            compared(DOUBLE, a, sign, sign, 0);
            compared(DOUBLE, a, sign, 1, -1);
            compared(DOUBLE, a, sign, sign | 1, 1);
            noNumbers(DOUBLE, a, new long[] {0x7ff0000000000001L, 0x7ff0000100000000L, MOST_LONG,
                sign | 0x7ff0000000000001L, -1},
                new long[] {0, 0x7ff0000000000000L, sign | 0x7ff0000000000000L, 0x7ff8000000000000L});
        }
    }

    /** "by b: 0 equal to 0, 1 not, 2 less, 3 not less, 4 greater, 5 not greater" */
    private static void signs() {
        String[] goes = {"00100", "11011", "11000", "00111", "00011", "11100"};
        int[] numbers = {LEAST, -1, 0, 1, MOST};
        for (int b = 0; b < 6; b++) {
            for (int k = 0; k < numbers.length; k++) {
                R.gives(numbers[k] + " by 21 " + b, goes[b].charAt(k) - '0', INT, op(0, numbers[k]), op(21, 4, b),
                    op(0, 0), op(34, INT),
                    op(0, 1), op(34, INT));
            }
        }
    }

    /** "22 (T ->) to a, if it is null (b = 0), or not (1)": THING 0 is none. */
    private static void nulls() {
        for (int b = 0; b < 2; b++) {
            R.gives("null by 22 " + b, 1 - b, INT, op(4), op(22, 4, b), op(0, 0), op(34, INT), op(0, 1), op(34, INT));
            R.gives("THING 0 by 22 " + b, b, INT, op(30, 0), op(22, 4, b), op(0, 0), op(34, INT), op(0, 1), op(34, INT));
        }
    }

    /** Goes by TABLE 0; the other target gives -1, entry e gives e. */
    private static void goesBy(SeldomOps x, int[] keys, int[] due) {
        Programs.method(x, INT, new int[] {INT}, op(5, 0, INT), op(23, 0));
        for (int e = -1; e < 8; e++) {
            Programs.add(x, 0, op(0, e), op(34, INT));
        }
        for (int k = 0; k < keys.length; k++) {
            R.walked("TABLE", 0, x, keys[k]);
            C.due("the target for " + keys[k], x.value(), due[k]);
        }
    }

    private static SeldomOps table(boolean sparse, int low, int... keys) {
        SeldomOps x = new SeldomOps();
        x.table(sparse, low, 2);
        for (int e = 0; e < keys.length; e++) {
            C.due("entry", x.entry(0, keys[e], 4 + 2 * e), e + 1);
        }
        return x;
    }

    private static int[] eightFrom(int low) {
        int[] keys = new int[8];
        for (int e = 0; e < 8; e++) {
            keys[e] = low + e;
        }
        return keys;
    }

    /** "of a DENSE one for the keys low, low + 1, ..", "to the target that TABLE a has for it, else to the other one" */
    private static void denseTablesAtBothEnds() {
        goesBy(table(false, -3, eightFrom(-3)), new int[] {-4, -3, -2, 0, 4, 5, LEAST, MOST},
            new int[] {-1, 0, 1, 3, 7, -1, -1, -1});
        goesBy(table(false, LEAST, eightFrom(LEAST)), new int[] {LEAST, LEAST + 7, LEAST + 8, MOST, 0},
            new int[] {0, 7, -1, -1, -1});
        goesBy(table(false, MOST - 7, eightFrom(MOST - 7)), new int[] {MOST - 8, MOST - 7, MOST - 1, MOST, LEAST, 0},
            new int[] {-1, 0, 6, 7, -1, -1});
        goesBy(table(false, MOST, MOST), new int[] {MOST - 1, MOST, LEAST, 0}, new int[] {-1, 0, -1, -1});
        goesBy(table(false, 0, 0, 1), new int[] {-1, 0, 1, 2}, new int[] {-1, 0, 1, -1});
    }

    /** "of a SPARSE one for rising keys" */
    private static void sparseTablesAtBothEnds() {
        goesBy(table(true, 5, LEAST, LEAST + 1, -1, 0, 1, 7, MOST - 1, MOST),
            new int[] {LEAST, LEAST + 1, LEAST + 2, -2, -1, 0, 1, 2, 5, 6, 7, 8, MOST - 2, MOST - 1, MOST},
            new int[] {0, 1, -1, -1, 2, 3, 4, -1, -1, -1, 5, -1, -1, 6, 7});
        goesBy(table(true, 5, 9), new int[] {5, 8, 9, 10}, new int[] {-1, -1, 0, -1});
    }

    private static void tablesWithoutEntries() {
        goesBy(table(false, 5), new int[] {LEAST, 4, 5, 6, MOST}, new int[] {-1, -1, -1, -1, -1});
        goesBy(table(true, 5), new int[] {LEAST, 4, 5, 6, MOST}, new int[] {-1, -1, -1, -1, -1});
    }
}
