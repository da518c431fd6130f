import java.util.ArrayList;
import java.util.List;

/** An object of the class beside the model: each call goes to both, and both must answer alike. */
final class Pair {
    private final SeldomOps x = new SeldomOps();
    private final Model y = new Model();
    private final List<String> calls = new ArrayList<>();
    boolean alike = true;

    private long both(String call, long got, long want) {
        if (alike) {
            calls.add(call + " -> " + got);
        }
        if (alike && got != want) {
            alike = false;
            System.out.println(String.join("\n", calls) + ", the model answers " + want);
        }
        return got;
    }

    int method(int result) {
        return (int) both("method(" + result + ")", x.method(result), y.method(result));
    }

    int argument(int m, int kind) {
        return (int) both("argument(" + m + ", " + kind + ")", x.argument(m, kind), y.argument(m, kind));
    }

    int op(int m, int op, int a, int b) {
        return (int) both("op(" + m + ", " + op + ", " + a + ", " + b + ")", x.op(m, op, a, b), y.op(m, op, a, b));
    }

    int alter(int m, int i, int op, int a, int b) {
        return (int) both("alter(" + m + ", " + i + ", " + op + ", " + a + ", " + b + ")",
            x.alter(m, i, op, a, b), y.alter(m, i, op, a, b));
    }

    int handler(int m, int from, int to, int target, int number) {
        return (int) both("handler(" + m + ", " + from + ", " + to + ", " + target + ", " + number + ")",
            x.handler(m, from, to, target, number), y.handler(m, from, to, target, number));
    }

    int constant(long bits) {
        return (int) both("constant(" + bits + ")", x.constant(bits), y.constant(bits));
    }

    int table(boolean sparse, int low, int other) {
        return (int) both("table(" + sparse + ", " + low + ", " + other + ")", x.table(sparse, low, other),
            y.table(sparse, low, other));
    }

    int entry(int t, int key, int target) {
        return (int) both("entry(" + t + ", " + key + ", " + target + ")", x.entry(t, key, target),
            y.entry(t, key, target));
    }

    int count(int what) {
        return (int) both("count(" + what + ")", x.count(what), y.count(what));
    }

    int judge(int m) {
        return (int) both("judge(" + m + ")", x.judge(m), y.judge(m));
    }

    int fault(int what) {
        return (int) both("fault(" + what + ")", x.fault(what), y.fault(what));
    }

    int good(int m) {
        return (int) both("good(" + m + ")", x.good(m), y.good(m));
    }

    int shape(int m, int i, int k) {
        return (int) both("shape(" + m + ", " + i + ", " + k + ")", x.shape(m, i, k), y.shape(m, i, k));
    }

    int give(long bits) {
        return (int) both("give(" + bits + ")", x.give(bits), y.give(bits));
    }

    int walk(int m, int steps) {
        return (int) both("walk(" + m + ", " + steps + ")", x.walk(m, steps), y.walk(m, steps));
    }

    long value() {
        return both("value()", x.value(), y.value());
    }

    int told(int what) {
        return (int) both("told(" + what + ")", x.told(what), y.told(what));
    }

    int thing(int i, int what) {
        return (int) both("thing(" + i + ", " + what + ")", x.thing(i, what), y.thing(i, what));
    }

    long cell(int i, int k) {
        return both("cell(" + i + ", " + k + ")", x.cell(i, k), y.cell(i, k));
    }
}
