import java.util.function.IntUnaryOperator;

/** Judges and walks METHODS, and checks what is due of them. */
final class Runs {
    private static final int[] NO_ARGUMENTS = {};

    private final Checks checks;

    Runs(Checks checks) {
        this.checks = checks;
    }

    /** What a call answers for a number at both ends of its bounds, just beside them, and far off. */
    void bounded(String what, int low, int high, int inside, int outside, IntUnaryOperator call) {
        for (int n : new int[] {low, high}) {
            checks.due(what + ": " + n, call.applyAsInt(n), inside);
        }
        for (int n : new int[] {low - 1, high + 1, Integer.MIN_VALUE, Integer.MAX_VALUE}) {
            checks.due(what + ": " + n, call.applyAsInt(n), outside);
        }
    }

    /** Judges METHOD m: the FAULT that is due, and where; 0 for none. */
    void judgedAs(String what, SeldomOps x, int m, int fault, int at) {
        checks.due(what + ": judge", x.judge(m), fault == 0 ? 0 : -10 - fault);
        checks.due(what + ": good", x.good(m), fault == 0 ? 1 : 0);
        if (fault != 0) {
            checks.due(what + ": fault(0)", x.fault(0), m);
            checks.due(what + ": fault(1)", x.fault(1), at);
        }
    }

    /** Judges one METHOD without ARGUMENTS, there being one CONSTANT and one TABLE that goes to 0. */
    SeldomOps faultIs(String what, int fault, int at, int result, int[]... operations) {
        SeldomOps x = Programs.single(result, operations);
        x.constant(0);
        x.table(true, 0, 0);
        judgedAs(what, x, 0, fault, at);
        return x;
    }

    /** What the STACK is at OPERATION i of METHOD 0, the lowest WORD first. */
    void stackIs(String what, SeldomOps x, int i, int... words) {
        checks.due(what + ": WORDS at " + i, x.shape(0, i, -1), words.length);
        for (int k = 0; k < words.length; k++) {
            checks.due(what + ": WORD " + k + " at " + i, x.shape(0, i, k), words[k]);
        }
    }

    /** What LOCALS of METHOD 0 are at OPERATION i, from one on. */
    void localsAre(String what, SeldomOps x, int i, int from, int... words) {
        for (int k = 0; k < words.length; k++) {
            checks.due(what + ": LOCAL " + (from + k) + " at " + i, x.shape(0, i, -2 - from - k), words[k]);
        }
    }

    /** Judges all METHODS and walks the first one for so many STEPS. */
    SeldomOps walkedFor(String what, SeldomOps x, int steps, int answer, long... given) {
        checks.due(what + ": judge", Programs.judgeAll(x), 0);
        for (long bits : given) {
            x.give(bits);
        }
        checks.due(what + ": walk", x.walk(0, steps), answer);
        return x;
    }

    SeldomOps walked(String what, int answer, SeldomOps x, long... given) {
        return walkedFor(what, x, 3000, answer, given);
    }

    void toldIs(String what, SeldomOps x, int... want) {
        for (int w = 0; w < want.length; w++) {
            checks.due(what + ": told(" + w + ")", x.told(w), want[w]);
        }
    }

    void gives(String what, long want, int result, int[]... operations) {
        SeldomOps x = Programs.single(result, operations);
        checks.due(what, walked(what, 0, x).value(), want);
    }

    SeldomOps fails(String what, int failure, int at, int[]... operations) {
        SeldomOps x = walked(what, 1, Programs.single(5, operations));
        checks.due(what + ": FAILURE", x.told(0), failure);
        checks.due(what + ": at", x.told(1), at);
        return x;
    }

    /** One operation on ARGUMENTS of these KINDS. */
    long onArguments(int result, int[] kinds, int[] operation, long... given) {
        SeldomOps x = new SeldomOps();
        int m = Programs.method(x, result, kinds);
        int word = 0;
        for (int kind : kinds) {
            x.op(m, 5, word, kind);
            word += Programs.width(kind);
        }
        Programs.add(x, m, operation, Programs.op(34, result));
        return walked("on ARGUMENTS", 0, x, given).value();
    }

    /** A new object with one CONSTANT and one METHOD without ARGUMENTS. */
    static SeldomOps withConstant(long bits, int result, int[]... operations) {
        SeldomOps x = new SeldomOps();
        x.constant(bits);
        Programs.method(x, result, NO_ARGUMENTS, operations);
        return x;
    }
}
