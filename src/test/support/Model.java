import java.util.ArrayList;
import java.util.HashMap;
import java.util.List;
import java.util.Map;
import java.util.TreeSet;
import java.util.regex.Matcher;
import java.util.regex.Pattern;

/**
 * The document once more, written in another way than the class: shapes are texts and moves are patterns on them,
 * a walk has whole values instead of words and looks at each operation whether its shape was foretold rightly.
 */
final class Model {
    static final int NONE = -1, BAD = -2, NO = -3, FULL = -4;
    private static final String[] WORDS = {"I", "Ll", "F", "Dd", "T", ""};
    private static final String SHAPE_WORDS = "ILFDT.ld";
    private static final String ONE = "([IFT])", TWO = "([IFT][IFT]|Ll|Dd)", REST = "^(.*)";
    private static final String[][] MOVES = {
        {REST + ONE, "$1"}, {REST + TWO, "$1"}, {REST + ONE, "$1$2$2"}, {REST + ONE + ONE, "$1$3$2$3"},
        {REST + TWO + ONE, "$1$3$2$3"}, {REST + TWO, "$1$2$2"}, {REST + ONE + TWO, "$1$3$2$3"},
        {REST + TWO + TWO, "$1$3$2$3"}, {REST + ONE + ONE, "$1$3$2"},
    };

    static final class Op {
        int code, a, b;
    }

    static final class Method {
        int result;
        final List<Integer> arguments = new ArrayList<>();
        final List<Op> ops = new ArrayList<>();
        final List<int[]> handlers = new ArrayList<>();
        Map<Integer, String[]> shapes = null;
        boolean good = false;

        int words() {
            int words = 0;
            for (int kind : arguments) {
                words += WORDS[kind].length();
            }
            return words;
        }
    }

    static final class Table {
        boolean sparse;
        int low, other;
        final List<int[]> entries = new ArrayList<>();
    }

    static final class Value {
        final int kind;
        final long bits;

        Value(int kind, long bits) {
            this.kind = kind;
            this.bits = bits;
        }
    }

    static final class Thing {
        int type;
        long[] cells = {};
    }

    static final class Frame {
        int m, at;
        Method method;
        List<Value> stack = new ArrayList<>();
        Map<Integer, Value> locals = new HashMap<>();
        Map<Integer, Integer> held = new HashMap<>();
    }

    private static final class Fault extends Exception {
        final int fault, at;

        Fault(int fault, int at) {
            this.fault = fault;
            this.at = at;
        }
    }

    private static final class Failure extends Exception {
        final int number;
        final int of;

        Failure(int number, int of) {
            this.number = number;
            this.of = of;
        }

        Failure(int number) {
            this(number, NONE);
        }
    }

    private final List<Method> methods = new ArrayList<>();
    private final List<Long> constants = new ArrayList<>();
    private final List<Table> tables = new ArrayList<>();
    private final List<Long> given = new ArrayList<>();
    private int faultMethod = NONE, faultOperation = NONE;

    private List<Frame> frames = new ArrayList<>();
    private List<Thing> things = new ArrayList<>();
    private int[] told = null;
    private long value = 0;

    private void changed() {
        for (Method m : methods) {
            m.shapes = null;
            m.good = false;
        }
    }

    private static boolean out(int n, int low, int high) {
        return n < low || n > high;
    }

    private boolean noMethod(int m) {
        return out(m, 0, methods.size() - 1);
    }

    int method(int result) {
        if (out(result, 0, 5)) return BAD;
        if (methods.size() == 8) return FULL;
        changed();
        Method m = new Method();
        m.result = result;
        methods.add(m);
        return methods.size() - 1;
    }

    int argument(int m, int kind) {
        if (noMethod(m) || out(kind, 0, 4)) return BAD;
        Method x = methods.get(m);
        if (x.words() + WORDS[kind].length() > 8) return FULL;
        changed();
        x.arguments.add(kind);
        return x.words();
    }

    int op(int m, int op, int a, int b) {
        if (noMethod(m) || out(op, 0, 35)) return BAD;
        if (methods.get(m).ops.size() == 60) return FULL;
        methods.get(m).ops.add(new Op());
        return alter(m, methods.get(m).ops.size() - 1, op, a, b);
    }

    int alter(int m, int i, int op, int a, int b) {
        if (noMethod(m) || out(op, 0, 35) || out(i, 0, methods.get(m).ops.size() - 1)) return BAD;
        changed();
        Op o = methods.get(m).ops.get(i);
        o.code = op;
        o.a = a;
        o.b = b;
        return i;
    }

    int handler(int m, int from, int to, int target, int number) {
        if (noMethod(m) || out(to, 0, 60) || out(from, 0, to) || out(target, 0, 59) || out(number, -1, 15)) return BAD;
        if (methods.get(m).handlers.size() == 6) return FULL;
        changed();
        methods.get(m).handlers.add(new int[] {from, to, target, number});
        return methods.get(m).handlers.size();
    }

    int constant(long bits) {
        if (constants.size() == 40) return FULL;
        changed();
        constants.add(bits);
        return constants.size() - 1;
    }

    int table(boolean sparse, int low, int other) {
        if (out(other, 0, 59)) return BAD;
        if (tables.size() == 8) return FULL;
        changed();
        Table t = new Table();
        t.sparse = sparse;
        t.low = low;
        t.other = other;
        tables.add(t);
        return tables.size() - 1;
    }

    int entry(int t, int key, int target) {
        if (out(t, 0, tables.size() - 1) || out(target, 0, 59)) return BAD;
        Table x = tables.get(t);
        int n = x.entries.size();
        if (x.sparse ? n > 0 && key <= x.entries.get(n - 1)[0] : (long) key - x.low != n) return NO;
        if (n == 8) return FULL;
        changed();
        x.entries.add(new int[] {key, target});
        return n + 1;
    }

    int count(int what) {
        int[] all = {methods.size(), constants.size(), tables.size(), given.size()};
        return out(what, 0, 3) ? BAD : all[what];
    }

    int fault(int what) {
        return what == 0 ? faultMethod : what == 1 ? faultOperation : BAD;
    }

    int good(int m) {
        return noMethod(m) ? BAD : methods.get(m).good ? 1 : 0;
    }

    int shape(int m, int i, int k) {
        if (noMethod(m) || out(i, 0, methods.get(m).ops.size() - 1) || out(k, -17, 11)) return BAD;
        Map<Integer, String[]> shapes = methods.get(m).shapes;
        if (shapes == null || !shapes.containsKey(i)) return NONE;
        String stack = shapes.get(i)[0];
        if (k == -1) return stack.length();
        if (k >= stack.length()) return NONE;
        return SHAPE_WORDS.indexOf(k >= 0 ? stack.charAt(k) : shapes.get(i)[1].charAt(-2 - k));
    }

    int judge(int m) {
        if (noMethod(m)) return BAD;
        Method x = methods.get(m);
        try {
            x.good = false;
            x.shapes = new HashMap<>();
            judgeAll(x);
            x.good = true;
            return 0;
        } catch (Fault f) {
            faultMethod = m;
            faultOperation = f.at;
            return -10 - f.fault;
        }
    }

    private void judgeAll(Method m) throws Fault {
        if (m.ops.isEmpty()) throw new Fault(1, 0);
        StringBuilder locals = new StringBuilder();
        for (int kind : m.arguments) {
            locals.append(WORDS[kind]);
        }
        while (locals.length() < 16) {
            locals.append('.');
        }
        m.shapes.put(0, new String[] {"", locals.toString()});
        TreeSet<Integer> due = new TreeSet<>();
        due.add(0);
        while (!due.isEmpty()) {
            int i = due.pollFirst();
            String[] ahead = m.shapes.get(i);
            String[] behind = behind(m, i, ahead);
            for (int[] h : m.handlers) {
                if (h[0] <= i && i < h[1]) come(m, h[2], "T", ahead[1], due);
            }
            for (int target : ways(m, i)) {
                come(m, target, behind[0], behind[1], due);
            }
        }
    }

    private List<Integer> ways(Method m, int i) {
        Op o = m.ops.get(i);
        List<Integer> ways = new ArrayList<>();
        if (o.code == 31 || o.code == 34) return ways;
        if (o.code == 23) {
            for (int[] e : tables.get(o.a).entries) {
                ways.add(e[1]);
            }
            ways.add(tables.get(o.a).other);
            return ways;
        }
        if (o.code >= 20 && o.code <= 22) ways.add(o.a);
        if (o.code != 20) ways.add(i + 1);
        return ways;
    }

    private static void come(Method m, int i, String stack, String locals, TreeSet<Integer> due) throws Fault {
        String[] old = m.shapes.get(i);
        if (old == null) {
            m.shapes.put(i, new String[] {stack, locals});
            due.add(i);
            return;
        }
        if (!old[0].equals(stack)) throw new Fault(6, i);
        StringBuilder joined = new StringBuilder();
        for (int j = 0; j < 16; j++) {
            joined.append(old[1].charAt(j) == locals.charAt(j) ? locals.charAt(j) : '.');
        }
        String whole = whole(joined.toString());
        if (!whole.equals(old[1])) {
            m.shapes.put(i, new String[] {stack, whole});
            due.add(i);
        }
    }

    private static String whole(String locals) {
        return locals.replaceAll("L(?!l)|D(?!d)|(?<!L)l|(?<!D)d", ".");
    }

    private static boolean noType(int a) {
        int n = Math.floorDiv(a, 8);
        return n < 1 || n > 3 || a - 8 * n == 4;
    }

    private boolean wrongOperand(Op o) {
        int a = o.a;
        int b = o.b;
        switch (o.code) {
            case 1: case 3: return out(a, 0, constants.size() - 1);
            case 5: case 6: return out(b, 0, 4) || out(a, 0, 16 - WORDS[b].length());
            case 7: return out(a, 0, 15);
            case 17: return out(a, 0, 11) || out(b, 0, 1);
            case 18: case 19: return out(a, 0, 4);
            case 21: return out(b, 0, 5);
            case 22: return out(b, 0, 1);
            case 23: return out(a, 0, tables.size() - 1);
            case 24: return noType(a) || out(b, 1, 3) || 8 * b > a;
            case 25: case 26: return out(b, 0, 7);
            case 28: case 29: return noType(a);
            case 30: return out(a, 0, 15);
            case 34: return out(a, 0, 5);
            case 35: return noMethod(a);
            default: return false;
        }
    }

    private String[] takesAndGives(Op o) {
        int a = o.a;
        int b = o.b;
        String k = b >= 0 && b < 5 ? WORDS[b] : b >= 5 && b < 8 ? "I" : "";
        switch (o.code) {
            case 0: case 1: case 2: case 3: case 4: return new String[] {"", WORDS[o.code]};
            case 5: return new String[] {"", k};
            case 6: return new String[] {k, ""};
            case 17: return new String[] {a < 8 ? k + k : a < 11 ? k + "I" : k, k};
            case 18: return new String[] {a == 3 ? "Ll" : "I", a == 4 ? "Ll" : "I"};
            case 19: return new String[] {a == 0 ? "LlLl" : a < 3 ? "FF" : "DdDd", "I"};
            case 21: case 23: return new String[] {"I", ""};
            case 22: case 31: case 32: case 33: return new String[] {"T", ""};
            case 24: return new String[] {"III".substring(0, b), "T"};
            case 25: return new String[] {"TI", k};
            case 26: return new String[] {"TI" + k, ""};
            case 27: case 28: return new String[] {"T", "I"};
            case 29: return new String[] {"T", "T"};
            case 30: return new String[] {"", "T"};
            case 34: return new String[] {WORDS[a], ""};
            case 35:
                StringBuilder arguments = new StringBuilder();
                for (int kind : methods.get(a).arguments) {
                    arguments.append(WORDS[kind]);
                }
                return new String[] {arguments.toString(), WORDS[methods.get(a).result]};
            default: return new String[] {"", ""};
        }
    }

    private String[] behind(Method m, int i, String[] ahead) throws Fault {
        Op o = m.ops.get(i);
        if (wrongOperand(o)) throw new Fault(7, i);
        for (int target : targets(m, i, o)) {
            if (out(target, 0, m.ops.size() - 1)) throw new Fault(2, i);
        }
        String[] word = takesAndGives(o);
        String stack = ahead[0];
        String locals = ahead[1];
        if (o.code >= 8 && o.code <= 16) {
            Matcher match = Pattern.compile(MOVES[o.code - 8][0] + "$").matcher(stack);
            if (!match.matches()) throw new Fault(3, i);
            stack = match.replaceFirst(MOVES[o.code - 8][1]);
        } else {
            if (!stack.endsWith(word[0])) throw new Fault(3, i);
            stack = stack.substring(0, stack.length() - word[0].length()) + word[1];
        }
        if (o.code == 5 && !locals.startsWith(WORDS[o.b], o.a)) throw new Fault(5, i);
        if (o.code == 7 && locals.charAt(o.a) != 'I') throw new Fault(5, i);
        if (o.code == 34 && m.result != o.a) throw new Fault(8, i);
        if (stack.length() > 12) throw new Fault(4, i);
        if (ways(m, i).contains(i + 1) && i + 1 == m.ops.size()) throw new Fault(1, i);
        if (o.code == 6) locals = stored(locals, o.a, WORDS[o.b]);
        return new String[] {stack, locals};
    }

    private static String stored(String locals, int at, String words) {
        StringBuilder s = new StringBuilder(locals);
        for (int j = at; j < at + words.length(); j++) {
            char old = s.charAt(j);
            if (old == 'L' || old == 'D') s.setCharAt(j + 1, '.');
            if (old == 'l' || old == 'd') s.setCharAt(j - 1, '.');
            s.setCharAt(j, '.');
        }
        s.replace(at, at + words.length(), words);
        return s.toString();
    }

    private List<Integer> targets(Method m, int i, Op o) {
        List<Integer> targets = new ArrayList<>();
        if (o.code >= 20 && o.code <= 22) targets.add(o.a);
        if (o.code == 23) targets.addAll(ways(m, i));
        for (int[] h : m.handlers) {
            if (h[0] <= i && i < h[1]) targets.add(h[2]);
        }
        return targets;
    }

    int give(long bits) {
        if (given.size() == 8) return FULL;
        given.add(bits);
        return given.size();
    }

    long value() {
        return value;
    }

    int told(int what) {
        if (out(what, 0, 8)) return BAD;
        return told == null ? NO : told[what];
    }

    int thing(int i, int what) {
        if (out(i, 0, things.size() - 1) || out(what, 0, 2)) return BAD;
        int held = 0;
        for (Frame f : frames) {
            held += f.held.getOrDefault(i, 0);
        }
        return what == 0 ? things.get(i).type : what == 1 ? things.get(i).cells.length : held;
    }

    long cell(int i, int k) {
        return out(i, 0, things.size() - 1) || out(k, 0, things.get(i).cells.length - 1) ? BAD : things.get(i).cells[k];
    }

    int walk(int m, int steps) {
        if (noMethod(m) || out(steps, 0, 3000)) return BAD;
        for (Method x : methods) {
            if (!x.good) return NO;
        }
        List<Integer> kinds = methods.get(m).arguments;
        if (kinds.size() != given.size()) return NO;
        frames = new ArrayList<>();
        things = new ArrayList<>();
        value = 0;
        told = new int[] {NONE, NONE, NONE, 0, 0, 0, 0, 0, 0};
        List<Value> arguments = new ArrayList<>();
        for (int k = 0; k < kinds.size(); k++) {
            long bits = given.get(k);
            int kind = kinds.get(k);
            arguments.add(new Value(kind, kind == 4 ? NONE : kind == 0 || kind == 2 ? (int) bits : bits));
        }
        given.clear();
        enter(m, arguments);
        int answer = go(steps);
        told[5] = things.size();
        told[8] = frames.size();
        return answer;
    }

    private void enter(int m, List<Value> arguments) {
        Frame f = new Frame();
        f.m = m;
        f.method = methods.get(m);
        int word = 0;
        for (Value v : arguments) {
            f.locals.put(word, v);
            word += WORDS[v.kind].length();
        }
        frames.add(f);
        told[4]++;
    }

    private Frame top() {
        return frames.get(frames.size() - 1);
    }

    private int go(int steps) {
        while (!frames.isEmpty()) {
            Frame f = top();
            look(f);
            if (told[3] == steps) return 2;
            told[3]++;
            int at = f.at;
            try {
                perform(f, f.method.ops.get(at));
            } catch (Failure failure) {
                if (!caught(failure)) {
                    told[0] = failure.number;
                    told[1] = at;
                    told[2] = f.m;
                    return 1;
                }
            }
            if (!frames.isEmpty()) told[6] = Math.max(told[6], wordsOf(top().stack).length());
        }
        return 0;
    }

    private static String wordsOf(List<Value> values) {
        StringBuilder s = new StringBuilder();
        for (Value v : values) {
            s.append(WORDS[v.kind]);
        }
        return s.toString();
    }

    /** What judging foretold must be so. */
    private static void look(Frame f) {
        String[] shape = f.method.shapes.get(f.at);
        if (shape == null || !shape[0].equals(wordsOf(f.stack))) throw new IllegalStateException("a STACK is not as judged");
        for (int j = 0; j < 16; j++) {
            int kind = "ILFDT".indexOf(shape[1].charAt(j));
            if (kind >= 0 && (f.locals.get(j) == null || f.locals.get(j).kind != kind)) {
                throw new IllegalStateException("a LOCAL is not as judged");
            }
        }
    }

    private boolean caught(Failure failure) {
        int thing = failure.of;
        if (thing == NONE && things.size() < 60) thing = newFailure(failure.number);
        while (!frames.isEmpty()) {
            Frame f = top();
            for (int[] h : f.method.handlers) {
                if (h[0] <= f.at && f.at < h[1] && (h[3] == -1 || h[3] == failure.number)) {
                    f.stack = new ArrayList<>(List.of(new Value(4, thing)));
                    f.at = h[2];
                    told[7]++;
                    return true;
                }
            }
            frames.remove(frames.size() - 1);
        }
        return false;
    }

    private int newFailure(int number) {
        Thing t = new Thing();
        t.type = number - 100;
        things.add(t);
        return things.size() - 1;
    }

    private static Value pop(Frame f, int kind) {
        Value v = f.stack.remove(f.stack.size() - 1);
        if (v.kind != kind) throw new IllegalStateException("another KIND than judged");
        return v;
    }

    private static void push(Frame f, int kind, long bits) {
        f.stack.add(new Value(kind, bits));
    }

    private void perform(Frame f, Op o) throws Failure {
        int next = f.at + 1;
        switch (o.code) {
            case 0: push(f, 0, o.a); break;
            case 2: push(f, 2, o.a); break;
            case 1: case 3: push(f, o.code, constants.get(o.a)); break;
            case 4: push(f, 4, NONE); break;
            case 5: f.stack.add(f.locals.get(o.a)); break;
            case 6: f.locals.put(o.a, pop(f, o.b)); break;
            case 7: f.locals.put(o.a, new Value(0, (int) (f.locals.get(o.a).bits + o.b))); break;
            case 17: calculate(f, o.a, o.b); break;
            case 18: convert(f, o.a); break;
            case 19: compare(f, o.a); break;
            case 20: next = o.a; break;
            case 21: if (passes(o.b, pop(f, 0).bits)) next = o.a; break;
            case 22: if (pop(f, 4).bits == NONE ^ o.b == 1) next = o.a; break;
            case 23: next = byTable(tables.get(o.a), pop(f, 0).bits); break;
            case 24: case 25: case 26: case 27: case 28: case 29: useArray(f, o); break;
            case 30:
                if (things.size() == 60) throw new Failure(7);
                push(f, 4, newFailure(o.a));
                break;
            case 31: fail((int) pop(f, 4).bits); break;
            case 32: case 33: useMonitor(f, o.code, (int) pop(f, 4).bits); break;
            case 34: leave(f); return;
            case 35: call(f, o.a); return;
            default: move(f, o.code); break;
        }
        f.at = next;
    }

    private static boolean passes(int test, long n) {
        return (test % 2 == 1) ^ (test < 2 ? n == 0 : test < 4 ? n < 0 : n > 0);
    }

    private static int byTable(Table t, long key) {
        for (int[] e : t.entries) {
            if (e[0] == key) return e[1];
        }
        return t.other;
    }

    private static List<Value> cut(Frame f, int words) {
        List<Value> cut = new ArrayList<>();
        while (wordsOf(cut).length() < words) {
            cut.add(0, f.stack.remove(f.stack.size() - 1));
        }
        if (wordsOf(cut).length() != words) throw new IllegalStateException("a value was parted");
        return cut;
    }

    private static void move(Frame f, int code) {
        int[] uppers = {1, 2, 1, 1, 1, 2, 2, 2, 1};
        int[] unders = {0, 0, 0, 1, 2, 0, 1, 2, 1};
        List<Value> upper = cut(f, uppers[code - 8]);
        List<Value> under = cut(f, unders[code - 8]);
        if (code > 9) f.stack.addAll(upper);
        if (code > 9) f.stack.addAll(under);
        if (code > 9 && code < 16) f.stack.addAll(upper);
    }

    private static void calculate(Frame f, int a, int kind) throws Failure {
        long y = a == 11 ? 0 : pop(f, a < 8 ? kind : 0).bits;
        long x = pop(f, kind).bits;
        if ((a == 3 || a == 4) && y == 0) throw new Failure(0);
        int n = (int) y & (kind == 1 ? 63 : 31);
        long z;
        switch (a) {
            case 0: z = x + y; break;
            case 1: z = x - y; break;
            case 2: z = x * y; break;
            case 3: z = x / y; break;
            case 4: z = x % y; break;
            case 5: z = x & y; break;
            case 6: z = x | y; break;
            case 7: z = x ^ y; break;
            case 8: z = x << n; break;
            case 9: z = x >> n; break;
            case 10: z = (kind == 1 ? x : x & 0xffffffffL) >>> n; break;
            default: z = -x; break;
        }
        push(f, kind, kind == 1 ? z : (int) z);
    }

    private static void convert(Frame f, int a) {
        long x = pop(f, a == 3 ? 1 : 0).bits;
        push(f, a == 4 ? 1 : 0, a == 0 ? (byte) x : a == 1 ? (short) x : a == 2 ? x & 0xffff : a == 3 ? (int) x : x);
    }

    private static void compare(Frame f, int a) {
        int kind = a == 0 ? 1 : a < 3 ? 2 : 3;
        long y = pop(f, kind).bits;
        long x = pop(f, kind).bits;
        if (kind == 1) {
            push(f, 0, Integer.signum(Long.compare(x, y)));
            return;
        }
        double p = kind == 2 ? Float.intBitsToFloat((int) x) : Double.longBitsToDouble(x);
        double q = kind == 2 ? Float.intBitsToFloat((int) y) : Double.longBitsToDouble(y);
        push(f, 0, p < q ? -1 : p > q ? 1 : p == q ? 0 : a == 1 || a == 3 ? -1 : 1);
    }

    private void useArray(Frame f, Op o) throws Failure {
        if (o.code == 24) {
            List<Integer> sizes = new ArrayList<>();
            for (int s = 0; s < o.b; s++) {
                sizes.add(0, (int) pop(f, 0).bits);
            }
            for (int size : sizes) {
                if (size < 0) throw new Failure(4);
            }
            List<Thing> made = new ArrayList<>();
            make(made, o.a, sizes);
            push(f, 4, things.size());
            things.addAll(made);
            return;
        }
        long bits = o.code == 26 ? pop(f, o.b > 4 ? 0 : o.b).bits : 0;
        int k = o.code <= 26 ? (int) pop(f, 0).bits : 0;
        int i = (int) pop(f, 4).bits;
        Thing t = i == NONE ? null : things.get(i);
        if (o.code == 28) {
            push(f, 0, t != null && t.type == o.a ? 1 : 0);
        } else if (o.code == 29) {
            if (t != null && t.type != o.a) throw new Failure(5);
            push(f, 4, i);
        } else if (t == null) {
            throw new Failure(1);
        } else if (t.type < 0) {
            throw new Failure(5);
        } else if (o.code == 27) {
            push(f, 0, t.cells.length);
        } else {
            useCell(f, o, t, k, bits);
        }
    }

    private void useCell(Frame f, Op o, Thing t, int k, long bits) throws Failure {
        if ((t.type >= 16 ? 4 : t.type - 8) != o.b) throw new Failure(5);
        if (out(k, 0, t.cells.length - 1)) throw new Failure(2);
        if (o.code == 25) {
            push(f, o.b > 4 ? 0 : o.b, t.cells[k]);
            return;
        }
        if (o.b == 4 && bits != NONE && things.get((int) bits).type != t.type - 8) throw new Failure(3);
        t.cells[k] = o.b == 5 ? (byte) bits : o.b == 6 ? (short) bits : o.b == 7 ? (char) bits : bits;
    }

    private int make(List<Thing> made, int type, List<Integer> sizes) throws Failure {
        if (sizes.get(0) > 100 || things.size() + made.size() == 60) throw new Failure(7);
        Thing t = new Thing();
        t.type = type;
        t.cells = new long[sizes.get(0)];
        int number = things.size() + made.size();
        made.add(t);
        for (int k = 0; k < t.cells.length; k++) {
            t.cells[k] = sizes.size() > 1 ? make(made, type - 8, sizes.subList(1, sizes.size())) : type >= 16 ? NONE : 0;
        }
        return number;
    }

    private void fail(int i) throws Failure {
        if (i == NONE) throw new Failure(1);
        if (things.get(i).type > 0) throw new Failure(5);
        throw new Failure(things.get(i).type + 100, i);
    }

    private static void useMonitor(Frame f, int code, int i) throws Failure {
        if (i == NONE) throw new Failure(1);
        if (code == 33 && !f.held.containsKey(i)) throw new Failure(6);
        f.held.merge(i, code == 32 ? 1 : -1, Integer::sum);
        f.held.remove(i, 0);
    }

    private void leave(Frame f) throws Failure {
        if (!f.held.isEmpty()) throw new Failure(6);
        int kind = f.method.result;
        Value v = kind == 5 ? null : pop(f, kind);
        frames.remove(frames.size() - 1);
        if (frames.isEmpty()) {
            value = v == null ? 0 : v.bits;
            return;
        }
        if (v != null) top().stack.add(v);
        top().at++;
    }

    private void call(Frame f, int m) throws Failure {
        if (frames.size() == 6) throw new Failure(8);
        List<Value> arguments = new ArrayList<>();
        List<Integer> kinds = methods.get(m).arguments;
        for (int k = kinds.size() - 1; k >= 0; k--) {
            arguments.add(0, pop(f, kinds.get(k)));
        }
        enter(m, arguments);
    }
}
