/** OPERATIONS 24 to 29 in walks, with promises 19 and 20: sizes, cells, and TYPES at their bounds. */
public final class BoundsOfArraysTest {
    private static final Checks C = new Checks();
    private static final Runs R = new Runs(C);
    private static final int NONE = SeldomOps.NONE, BAD = SeldomOps.BAD;
    private static final int INT = 0, LONG = 1, FLOAT = 2, DOUBLE = 3, THING = 4;
    private static final int LEAST = Integer.MIN_VALUE, MOST = Integer.MAX_VALUE;
    private static final int[] TYPES = {8, 9, 10, 11, 13, 14, 15, 16, 17, 18, 19, 21, 22, 23, 24, 25, 26, 27, 29, 30, 31};

    public static void main(String[] args) {
        sizesOfOneDimension();
        sizesBelowZero();
        rowsOfSixtyThings();
        sixtyThingsAlreadyThere();
        rowsOfHundredCells();
        rowsThatAreNotMade();
        sizesThatWouldRunOver();
        madeOneBehindTheOther();
        cellsAtFirst();
        sizesFewerThanDimensions();
        theFirstSizeIsLowest();
        cellsAtBothEnds();
        cellsOfThatSort();
        theFirstFailureOfCells();
        narrowCells();
        wholeCells();
        rowsThatMayBeStored();
        nullMayBeStored();
        howManyCells();
        arraysOfThatType();
        cellsThatAreNone();
        cellsThatAreLikeBad();
        C.finish();
    }

    private static int[] op(int... o) {
        return o;
    }

    /** Makes an array of these sizes; the walk ends with it, or fails. */
    private static SeldomOps making(int type, int... sizes) {
        SeldomOps x = new SeldomOps();
        x.method(THING);
        for (int size : sizes) {
            x.op(0, 0, size, 0);
        }
        Programs.add(x, 0, op(24, type, sizes.length), op(34, THING));
        return x;
    }

    private static SeldomOps made(String what, int things, int type, int... sizes) {
        SeldomOps x = R.walked(what, 0, making(type, sizes));
        C.due(what + ": THINGS", x.told(5), things);
        C.due(what + ": the array", x.value(), 0);
        C.due(what + ": its TYPE", x.thing(0, 0), type);
        C.due(what + ": its cells", x.thing(0, 1), sizes[0]);
        return x;
    }

    /** "FAILURE 4 ..", "FAILURE 7 .. (then nothing of it is made)": there is the FAILURE THING alone. */
    private static void notMade(String what, int failure, int type, int... sizes) {
        SeldomOps x = R.walked(what, 1, making(type, sizes));
        R.toldIs(what, x, failure, sizes.length, 0, sizes.length + 1, 1, 1);
        C.due(what + ": the FAILURE THING", x.thing(0, 0), failure - 100);
        C.due(what + ": no other THING", x.thing(1, 0), BAD);
    }

    /** "one that would be made have more than 100 cells" */
    private static void sizesOfOneDimension() {
        for (int type : TYPES) {
            for (int size : new int[] {0, 1, 99, 100}) {
                made("of TYPE " + type + " and " + size, 1, type, size);
            }
            for (int size : new int[] {101, MOST}) {
                notMade("of TYPE " + type + " and " + size, 7, type, size);
            }
            for (int size : new int[] {-1, LEAST}) {
                notMade("of TYPE " + type + " and " + size, 4, type, size);
            }
        }
    }

    /** "FAILURE 4 if one is below 0": also where none would be made of it, and ahead of 7. */
    private static void sizesBelowZero() {
        int[][] rows = {
            {-1, 0}, {0, -1}, {-1, -1}, {101, -1}, {-1, 101}, {60, -1}, {LEAST, 1}, {1, LEAST}, {-1, 0, 0}, {0, -1, 0},
            {0, 0, -1},
            {0, 5, -1}, {101, 101, -1}, {-1, MOST, MOST}, {1, -1, 101},
        };
        for (int[] sizes : rows) {
            notMade("below 0", 4, 24, sizes);
        }
        made("0 is not below", 1, 24, 0, 0, 0);
    }

    /** "FAILURE 7 if THINGS would be more than 60" */
    private static void rowsOfSixtyThings() {
        made("1 + 59", 60, 16, 59, 0);
        notMade("1 + 60", 7, 16, 60, 0);
        made("1 + 59 of 100", 60, 23, 59, 100);
        made("1 + 1 + 58", 60, 24, 1, 58, 1);
        notMade("1 + 1 + 59", 7, 24, 1, 59, 1);
        made("1 + 2 + 56", 59, 24, 2, 28, 0);
        notMade("1 + 2 + 58", 7, 24, 2, 29, 0);
        made("1 + 29 + 29", 59, 24, 29, 1, 3);
        notMade("1 + 30 + 30", 7, 24, 30, 1, 3);
        made("1 + 59 + 0", 60, 24, 59, 0, 9);
        notMade("1 + 60 + 0", 7, 24, 60, 0, 9);
        made("1 + 7 + 49", 57, 24, 7, 7, 7);
        notMade("1 + 7 + 56", 7, 24, 7, 8, 7);
        made("two sizes of three", 60, 24, 59, 100);
        notMade("two sizes of three", 7, 24, 60, 100);
    }

    private static SeldomOps behindOthers(int others, int... sizes) {
        SeldomOps x = new SeldomOps();
        x.method(THING);
        Programs.add(x, 0, op(0, others - 1), op(0, 0), op(24, 16, 2), op(8));
        for (int size : sizes) {
            x.op(0, 0, size, 0);
        }
        Programs.add(x, 0, op(24, 24, sizes.length), op(34, THING));
        return x;
    }

    private static void sixtyThingsAlreadyThere() {
        int[][] rows = {{59, 60, 5}, {60, 60, 5}, {58, 60, 1, 5}, {59, 60, 1, 5}, {57, 60, 1, 1, 5}, {58, 59, 1, 1, 5},
            {30, 60, 29, 0}, {31, 32, 29, 0}};
        boolean[] fits = {true, false, true, false, true, false, true, false};
        for (int row = 0; row < rows.length; row++) {
            int[] sizes = java.util.Arrays.copyOfRange(rows[row], 2, rows[row].length);
            SeldomOps x = R.walked("behind " + rows[row][0], fits[row] ? 0 : 1, behindOthers(rows[row][0], sizes));
            C.due("THINGS behind " + rows[row][0], x.told(5), rows[row][0] == 60 ? 60 : rows[row][1]);
            C.due("FAILURE behind " + rows[row][0], x.told(0), fits[row] ? NONE : 7);
            C.due("the array behind " + rows[row][0], x.value(), fits[row] ? rows[row][0] : 0);
        }
    }

    private static void rowsOfHundredCells() {
        made("a row of 100", 2, 16, 1, 100);
        notMade("a row of 101", 7, 16, 1, 101);
        made("rows of 100", 3, 24, 1, 1, 100);
        notMade("rows of 101", 7, 24, 1, 1, 101);
        notMade("101 rows", 7, 24, 101, 0);
        notMade("a row of 101 rows", 7, 24, 1, 101, 0);
    }

    /** "one that would be made": where there are no cells, no row is. */
    private static void rowsThatAreNotMade() {
        made("0 by 101", 1, 16, 0, 101);
        made("0 by the greatest", 1, 16, 0, MOST);
        made("0 by 101 by 101", 1, 24, 0, 101, 101);
        made("1 by 0 by 101", 2, 24, 1, 0, 101);
        made("59 by 0 by the greatest", 60, 24, 59, 0, MOST);
        made("0 by 1 by 101", 1, 24, 0, 1, 101);
        notMade("1 by 1 by 101", 7, 24, 1, 1, 101);
    }

    private static void sizesThatWouldRunOver() {
        notMade("2^16 by 2^16", 7, 16, 65536, 65536);
        notMade("2^31 - 1, all", 7, 24, MOST, MOST, MOST);
        notMade("2^16 by 2^16 by 0", 7, 24, 65536, 65536, 0);
        notMade("100 by 100 by 100", 7, 24, 100, 100, 100);
        notMade("2 by 2^31 - 1", 7, 16, 2, MOST);
    }

    /** "Made one behind the other, the first cell's with all that is in it ahead of the next one's" */
    private static void madeOneBehindTheOther() {
        SeldomOps x = made("3 by 2 by 1", 10, 25, 3, 2, 1);
        int[] types = {25, 17, 9, 9, 17, 9, 9, 17, 9, 9};
        int[] sizes = {3, 2, 1, 1, 2, 1, 1, 2, 1, 1};
        long[][] cells = {{1, 4, 7}, {2, 3}, {0}, {0}, {5, 6}, {0}, {0}, {8, 9}, {0}, {0}};
        for (int i = 0; i < 10; i++) {
            C.due("TYPE of " + i, x.thing(i, 0), types[i]);
            C.due("cells of " + i, x.thing(i, 1), sizes[i]);
            for (int k = 0; k < sizes[i]; k++) {
                C.due("cell " + k + " of " + i, x.cell(i, k), cells[i][k]);
            }
            C.due("no cell behind the last of " + i, x.cell(i, sizes[i]), BAD);
        }
        SeldomOps y = made("2 by 3", 3, 16, 2, 3);
        C.due("the first row", y.cell(0, 0), 1);
        C.due("the second row", y.cell(0, 1), 2);
        C.due("cells of the second row", y.thing(2, 1), 3);
    }

    /** "all other cells are 0, null", whatever an earlier WALK left in their place. */
    private static void cellsAtFirst() {
        for (int type : TYPES) {
            SeldomOps x = made("of TYPE " + type, 1, type, 100);
            for (int k : new int[] {0, 1, 99}) {
                C.due("cell " + k + " of TYPE " + type, x.cell(0, k), type < 16 ? 0 : NONE);
            }
        }
        SeldomOps x = Programs.single(THING, op(0, 2), op(24, 8, 1), op(10), op(0, 1), op(0, 77), op(26, 0, INT),
            op(34, THING));
        R.walked("filled", 0, x);
        C.due("filled", x.cell(0, 1), 77);
        C.due("not filled", x.cell(0, 0), 0);
        R.walkedFor("made anew", x, 2, 2);
        C.due("made anew", x.cell(0, 1), 0);
    }

    /** "where there is one more size, for each cell a row": where there is none, null. */
    private static void sizesFewerThanDimensions() {
        SeldomOps x = made("one of three", 1, 29, 2);
        C.due("null", x.cell(0, 0), NONE);
        x = made("two of three", 3, 29, 2, 3);
        C.due("a row", x.cell(0, 1), 2);
        C.due("of two DIMENSIONS", x.thing(2, 0), 21);
        C.due("of nulls", x.cell(2, 2), NONE);
        x = made("three of three", 9, 29, 2, 3, 1);
        C.due("BYTES", x.thing(2, 0), 13);
        C.due("0", x.cell(2, 0), 0);
    }

    /** "sizes of the first b DIMENSIONS, the first one lowest" */
    private static void theFirstSizeIsLowest() {
        SeldomOps x = made("3 by 1", 4, 16, 3, 1);
        C.due("cells of a row", x.thing(3, 1), 1);
        x = made("1 by 3", 2, 16, 1, 3);
        C.due("cells of the row", x.thing(1, 1), 3);
        x = made("1 by 2 by 3", 4, 24, 1, 2, 3);
        C.due("cells of the second", x.thing(1, 1), 2);
        C.due("cells of the third", x.thing(3, 1), 3);
    }

    private static int[][] array(int size, int type) {
        return new int[][] {op(0, size), op(24, type, 1)};
    }

    /** "2 it has no such cell" */
    private static void cellsAtBothEnds() {
        for (int size : new int[] {0, 1, 5, 100}) {
            for (int k : new int[] {LEAST, -1, 0, size - 1, size, MOST}) {
                boolean there = k >= 0 && k < size;
                for (int code : new int[] {25, 26}) {
                    int[][] row = Programs.row(array(size, 8), op(0, k));
                    row = code == 26 ? Programs.row(row, op(0, 9), op(26, 0, INT), op(34, 5)) : Programs.row(row,
                        op(25, 0, INT), op(34, 5));
                    SeldomOps x = R.walked(code + " of cell " + k + " of " + size, there ? 0 : 1, Programs.single(5, row));
                    C.due("FAILURE of cell " + k + " of " + size, x.told(0), there ? NONE : 2);
                    C.due("at", x.told(1), there ? NONE : row.length - 2);
                }
            }
        }
    }

    /** "5 it is no array with such cells (a row of DIMENSIONS above 1 has cells 4)", of each TYPE by each b. */
    private static void cellsOfThatSort() {
        for (int type : TYPES) {
            for (int b = 0; b < 8; b++) {
                boolean such = type < 16 ? b == type - 8 : b == 4;
                SeldomOps x = Programs.single(5, Programs.row(array(1, type), op(0, 0), op(25, 0, b), op(34, 5)));
                R.walked("25 " + b + " of TYPE " + type, such ? 0 : 1, x);
                C.due("25 " + b + " of TYPE " + type, x.told(0), such ? NONE : 5);
                int kind = b > 4 ? INT : b;
                SeldomOps y = Runs.withConstant(0, 5, Programs.row(array(1, type), op(0, 0), op(kind), op(26, 0, b),
                    op(34, 5)));
                R.walked("26 " + b + " of TYPE " + type, such ? 0 : 1, y);
                C.due("26 " + b + " of TYPE " + type, y.told(0), such ? NONE : 5);
            }
        }
    }

    /** "FAILURES, the first: 1 null; 5 ..; 2 ..; 3 .." */
    private static void theFirstFailureOfCells() {
        R.fails("1 ahead of 2, 25", 1, 2, op(4), op(0, -1), op(25, 0, INT), op(34, 5));
        R.fails("1 ahead of 2, 26", 1, 3, op(4), op(0, -1), op(0, 0), op(26, 0, INT), op(34, 5));
        R.fails("1 ahead of 3", 1, 3, op(4), op(0, -1), op(30, 0), op(26, 0, THING), op(34, 5));
        R.fails("5 ahead of 2, 25", 5, 3, Programs.row(array(1, 8), op(0, 1), op(25, 0, FLOAT), op(34, 5)));
        R.fails("5 ahead of 2, 26", 5, 4, Programs.row(array(1, 8), op(0, 1), op(2, 0), op(26, 0, FLOAT), op(34, 5)));
        R.fails("5 ahead of 3", 5, 4, Programs.row(array(1, 8), op(0, 0), op(30, 0), op(26, 0, THING), op(34, 5)));
        R.fails("2 ahead of 3", 2, 4, Programs.row(array(1, 16), op(0, 1), op(30, 0), op(26, 0, THING), op(34, 5)));
        R.fails("3", 3, 4, Programs.row(array(1, 16), op(0, 0), op(30, 0), op(26, 0, THING), op(34, 5)));
        for (int b = 0; b < 8; b++) {
            R.fails("25 " + b + " of a FAILURE THING", 5, 2, op(30, 0), op(0, 0), op(25, 0, b), op(34, 5));
        }
        R.fails("26 of a FAILURE THING", 5, 3, op(30, 0), op(0, 0), op(0, 0), op(26, 0, INT), op(34, 5));
    }

    /** "of BYTES, SHORTS, CHARS as by 18" */
    private static void narrowCells() {
        int[] numbers = {0, 127, 128, 255, 256, -128, -129, -1, 32767, 32768, 65535, 65536, -32768, -32769, MOST, LEAST};
        int[][] kept = {
            {0, 127, -128, -1, 0, -128, 127, -1, -1, 0, -1, 0, 0, -1, -1, 0},
            {0, 127, 128, 255, 256, -128, -129, -1, 32767, -32768, -1, 0, -32768, 32767, -1, 0},
            {0, 127, 128, 255, 256, 65408, 65407, 65535, 32767, 32768, 65535, 0, 32768, 32767, 65535, 0},
        };
        for (int k = 0; k < numbers.length; k++) {
            for (int e = 5; e <= 7; e++) {
                SeldomOps x = Programs.single(INT, Programs.row(array(2, 8 + e), op(10), op(0, 1), op(0, numbers[k]),
                    op(26, 0, e), op(0, 1),
                    op(25, 0, e), op(34, INT)));
                R.walked("narrow", 0, x);
                C.due(numbers[k] + " from cells " + e, x.value(), kept[e - 5][k]);
                C.due(numbers[k] + " in cells " + e, x.cell(0, 1), kept[e - 5][k]);
                C.due("the cell beside it", x.cell(0, 0), 0);
            }
        }
    }

    /** INTS, LONGS, FLOATS, DOUBLES lose nothing. */
    private static void wholeCells() {
        for (long bits : new long[] {LEAST, MOST, -1, 65536, Long.MIN_VALUE, Long.MAX_VALUE, 0xfff0000000000001L}) {
            for (int e = INT; e <= DOUBLE; e++) {
                SeldomOps x = new SeldomOps();
                Programs.method(x, e, new int[] {e}, Programs.row(array(100, 8 + e), op(10), op(0, 99), op(5, 0, e),
                    op(26, 0, e), op(0, 99),
                    op(25, 0, e), op(34, e)));
                R.walked("whole", 0, x, bits);
                long want = Programs.width(e) == 2 ? bits : (int) bits;
                C.due("from cells " + e, x.value(), want);
                C.due("in cells " + e, x.cell(0, 99), want);
                C.due("the cell beside it", x.cell(0, 98), 0);
            }
        }
    }

    /** "3 (26, b = 4): the THING is not null and is no array of one DIMENSION less with the same e" */
    private static void rowsThatMayBeStored() {
        for (int type : TYPES) {
            if (type < 16) {
                continue;
            }
            for (int stored : TYPES) {
                boolean may = stored == type - 8;
                int[][] row = Programs.row(array(1, type), op(10), op(0, 0), op(0, 1), op(24, stored, 1),
                    op(26, 0, THING), op(34, THING));
                SeldomOps x = R.walked(stored + " into " + type, may ? 0 : 1, Programs.single(THING, row));
                C.due(stored + " into " + type, x.told(0), may ? NONE : 3);
                C.due("the cell", x.cell(0, 0), may ? 1 : NONE);
            }
            R.fails("a FAILURE THING into " + type, 3, 4, Programs.row(array(1, type), op(0, 0), op(30, 0),
                op(26, 0, THING), op(34, 5)));
            R.fails("into itself, " + type, 3, 5, Programs.row(array(1, type), op(10), op(0, 0), op(16),
                op(26, 0, THING), op(34, 5)));
        }
    }

    private static void nullMayBeStored() {
        SeldomOps x = Programs.single(THING, op(0, 1), op(0, 1), op(24, 16, 2), op(10), op(0, 0), op(4),
            op(26, 0, THING), op(34, THING));
        R.walked("null", 0, x);
        C.due("null instead of a row", x.cell(0, 0), NONE);
    }

    /** "27 (T -> I) how many cells. FAILURE 1; 5 it is no array." */
    private static void howManyCells() {
        for (int size : new int[] {0, 1, 100}) {
            R.gives("27 of " + size, size, INT, Programs.row(array(size, 31), op(27), op(34, INT)));
        }
        R.fails("27 of null", 1, 1, op(4), op(27), op(34, 5));
        for (int number = 0; number <= 15; number++) {
            R.fails("27 of a FAILURE THING", 5, 1, op(30, number), op(27), op(34, 5));
        }
    }

    /** "28 (T -> I) 1, if it is an array of TYPE a, 0 if not, or null.  29 .. FAILURE 5, if .. 28 gives 0 for, but null." */
    private static void arraysOfThatType() {
        for (int asked : TYPES) {
            for (int type : TYPES) {
                R.gives("28 " + asked + " of " + type, asked == type ? 1 : 0, INT, Programs.row(array(0, type),
                    op(28, asked), op(34, INT)));
                SeldomOps x = Programs.single(THING, Programs.row(array(0, type), op(29, asked), op(34, THING)));
                R.walked("29 " + asked + " of " + type, asked == type ? 0 : 1, x);
                C.due("29 " + asked + " of " + type, x.told(0), asked == type ? NONE : 5);
            }
            R.gives("28 of null", 0, INT, op(4), op(28, asked), op(34, INT));
            R.gives("29 of null", NONE, THING, op(4), op(29, asked), op(34, THING));
            R.gives("28 of a FAILURE THING", 0, INT, op(30, asked % 16), op(28, asked), op(34, INT));
            R.fails("29 of a FAILURE THING", 5, 1, op(30, asked % 16), op(29, asked), op(34, 5));
        }
    }

    /** "Cell k of an array of the latest WALK .. BAD (which it may be): none such." */
    private static void cellsThatAreNone() {
        SeldomOps x = Programs.single(THING, op(30, 0), op(8), op(0, 0), op(24, 8, 1), op(8), op(0, 100), op(24, 8, 1),
            op(34, THING));
        C.due("before any WALK", x.cell(0, 0), BAD);
        R.walked("three THINGS", 0, x);
        C.due("of a FAILURE THING", x.cell(0, 0), BAD);
        C.due("of no cells", x.cell(1, 0), BAD);
        C.due("the first", x.cell(2, 0), 0);
        C.due("the last", x.cell(2, 99), 0);
        for (int k : new int[] {-1, 100, LEAST, MOST}) {
            C.due("cell " + k, x.cell(2, k), BAD);
        }
        for (int i : new int[] {-1, 3, LEAST, MOST}) {
            C.due("of THING " + i, x.cell(i, 0), BAD);
        }
    }

    private static void cellsThatAreLikeBad() {
        for (int e : new int[] {INT, LONG, FLOAT, DOUBLE}) {
            SeldomOps x = new SeldomOps();
            Programs.method(x, 5, new int[] {e}, Programs.row(array(1, 8 + e), op(0, 0), op(5, 0, e), op(26, 0, e),
                op(34, 5)));
            R.walked("like BAD", 0, x, -2);
            C.due("a cell that is -2", x.cell(0, 0), -2);
        }
    }
}
