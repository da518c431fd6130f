import java.util.Arrays;

/** Tells whole METHODS at once: an operation is {code}, {code, a} or {code, a, b}. */
final class Programs {
    private Programs() {
    }

    /** A METHOD with this RESULT and these ARGUMENTS; its number. */
    static int method(SeldomOps x, int result, int[] arguments, int[]... operations) {
        int m = x.method(result);
        for (int kind : arguments) {
            x.argument(m, kind);
        }
        add(x, m, operations);
        return m;
    }

    static void add(SeldomOps x, int m, int[]... operations) {
        for (int[] o : operations) {
            x.op(m, o[0], o.length > 1 ? o[1] : 0, o.length > 2 ? o[2] : 0);
        }
    }

    /** A new object with one METHOD without ARGUMENTS. */
    static SeldomOps single(int result, int[]... operations) {
        SeldomOps x = new SeldomOps();
        method(x, result, new int[0], operations);
        return x;
    }

    static int judgeAll(SeldomOps x) {
        for (int m = 0; m < x.count(0); m++) {
            int answer = x.judge(m);
            if (answer != 0) {
                return answer;
            }
        }
        return 0;
    }

    static int[] op(int... codeAndOperands) {
        return codeAndOperands;
    }

    static int width(int kind) {
        return kind == 1 || kind == 3 ? 2 : 1;
    }

    /** Operations that push values of these KINDS, told by I L F D T; CONSTANT 0 must be there for L, D. */
    static int[][] pushes(String kinds) {
        int[][] row = new int[kinds.length()][];
        for (int k = 0; k < row.length; k++) {
            row[k] = op("ILFDT".indexOf(kinds.charAt(k)), 0);
        }
        return row;
    }

    /** The same operation so many times. */
    static int[][] times(int count, int... operation) {
        int[][] row = new int[count][];
        Arrays.fill(row, operation);
        return row;
    }

    /** A row of operations with more behind it. */
    static int[][] row(int[][] first, int[]... more) {
        int[][] whole = Arrays.copyOf(first, first.length + more.length);
        System.arraycopy(more, 0, whole, first.length, more.length);
        return whole;
    }
}
