import java.util.ArrayList;
import java.util.List;
import java.util.Random;

/**
 * Makes METHODS at random that are mostly GOOD: blocks that begin with an empty STACK, or with the THING that a
 * HANDLER leaves, filled with operations that fit what lies on the STACK.
 */
final class Maker {
    private static final int[] NUMBERS = {0, 1, -1, 2, 3, 5, 31, 32, 33, 63, 64, 100, 101, 127, 128, 255, 256, 32768,
        65535, 65536, Integer.MAX_VALUE, Integer.MIN_VALUE, Integer.MAX_VALUE - 1, 0x7f800000, 0x7fc00000, 0x80000000};
    private static final String KINDS = "ILFDT";

    private final Random random;
    private final Pair pair;
    private final List<int[]> signatures;
    private final List<int[]> ops = new ArrayList<>();
    private final List<Integer> blocks = new ArrayList<>();
    private final List<Boolean> catching = new ArrayList<>();
    private final String[] locals = new String[16];
    private String stack = "";
    private int tableBase;
    private int tableCount;

    /** Signatures: the RESULT, then the KINDS of ARGUMENTS, of each METHOD. */
    Maker(Random random, Pair pair, List<int[]> signatures) {
        this.random = random;
        this.pair = pair;
        this.signatures = signatures;
    }

    int pick(int bound) {
        return random.nextInt(bound);
    }

    int number() {
        return pick(3) == 0 ? NUMBERS[pick(NUMBERS.length)] : pick(2) == 0 ? pick(4) : random.nextInt() >> pick(32);
    }

    /** Tells METHOD m, whose ARGUMENTS are told already. */
    void make(int m, int result) {
        tableBase = pair.count(2);
        tableCount = pick(3);
        int count = 2 + pick(5);
        for (int b = 0; b < count; b++) {
            catching.add(b > 0 && pick(3) == 0);
        }
        for (int b = 0; b < count && ops.size() < 50; b++) {
            block(m, result, b, count, 2 + pick(12));
        }
        while (blocks.size() < count) {
            blocks.add(ops.size() - 1);
        }
        for (int[] o : ops) {
            boolean jumps = o[0] >= 20 && o[0] <= 22;
            pair.op(m, o[0], jumps ? blocks.get(o[1] % blocks.size()) : o[1], o[2]);
        }
        tables();
        handlers(m);
    }

    private void tables() {
        for (int t = 0; t < tableCount; t++) {
            boolean sparse = pick(2) == 0;
            int low = number();
            int n = pair.table(sparse, low, blocks.get(plainBlock()));
            for (int e = pick(6); e > 0; e--) {
                pair.entry(n, low, blocks.get(plainBlock()));
                low += sparse ? 1 + pick(2) : 1;
            }
        }
    }

    private void handlers(int m) {
        for (int h = pick(6); h > 0; h--) {
            int target = pick(catching.size());
            if (catching.get(target) || pick(30) == 0) {
                int from = pick(ops.size());
                pair.handler(m, from, from + pick(ops.size() - from + 1), blocks.get(target), pick(2) == 0 ? -1 : pick(9));
            }
        }
    }

    private int plainBlock() {
        int b = pick(catching.size());
        for (int tries = 0; tries < 20 && catching.get(b); tries++) {
            b = pick(catching.size());
        }
        return b;
    }

    private int catchingBlock() {
        for (int b = 0; b < catching.size(); b++) {
            if (catching.get(b)) {
                return b;
            }
        }
        return 0;
    }

    private void block(int m, int result, int b, int count, int length) {
        blocks.add(ops.size());
        stack = catching.get(b) ? "T" : "";
        java.util.Arrays.fill(locals, null);
        int word = 0;
        int[] signature = signatures.get(m);
        for (int k = 1; k < signature.length; k++) {
            locals[word] = "" + KINDS.charAt(signature[k]);
            word += wide(signature[k]) ? 2 : 1;
        }
        for (int i = 0; i < length; i++) {
            operation(m, word);
        }
        end(result, b, count);
    }

    private static boolean wide(int kind) {
        return kind == 1 || kind == 3;
    }

    private int words() {
        int words = 0;
        for (char c : stack.toCharArray()) {
            words += c == 'L' || c == 'D' ? 2 : 1;
        }
        return words;
    }

    private void add(int code, int a, int b, int taken, String put) {
        ops.add(new int[] {code, a, b});
        stack = stack.substring(0, Math.max(0, stack.length() - taken)) + put;
    }

    private void pushOne(int kind) {
        if (kind == 4) {
            int how = pick(4);
            if (how == 0) add(30, pick(16), 0, 0, "T");
            else if (how == 1) add(4, 0, 0, 0, "T");
            else {
                int e = pick(8);
                int dimensions = 1 + pick(3);
                int sizes = 1 + pick(dimensions);
                for (int s = 0; s < sizes; s++) {
                    add(0, pick(12) == 0 ? number() : pick(4), 0, 0, "I");
                }
                add(24, 8 * dimensions + (e == 4 ? 5 : e), sizes, sizes, "T");
            }
        } else {
            add(kind, wide(kind) ? pick(pair.count(1)) : number(), 0, 0, "" + KINDS.charAt(kind));
        }
    }

    private void dropTop() {
        char top = stack.charAt(stack.length() - 1);
        add(top == 'L' || top == 'D' ? 9 : 8, 0, 0, 1, "");
    }

    private void end(int result, int b, int count) {
        int how = pick(6);
        if (how == 0 && result != 5 || b == count - 1 && pick(3) > 0) {
            if (words() > 10) dropTop();
            if (result != 5) pushOne(result);
            add(34, result, 0, 0, "");
        } else if (how == 1 && result == 5) {
            add(34, 5, 0, 0, "");
        } else if (how == 2) {
            if (words() > 9) dropTop();
            pushOne(4);
            add(31, 0, 0, 1, "");
        } else {
            while (!stack.isEmpty()) dropTop();
            if (how == 3 || b == count - 1 || catching.get(b + 1)) {
                add(20, plainBlock(), 0, 0, "");
            }
        }
    }

    private void operation(int m, int argumentWords) {
        if (words() > 8) {
            dropTop();
            return;
        }
        switch (pick(16)) {
            case 0: case 1: pushOne(pick(5)); break;
            case 2: case 3: load(); break;
            case 4: store(argumentWords); break;
            case 5: case 6: move(); break;
            case 7: case 8: calculate(); break;
            case 9: jump(); break;
            case 10: case 11: case 12: useThing(); break;
            case 13: monitor(); break;
            case 14: call(); break;
            default: if (pick(60) == 0) ops.add(new int[] {pick(36), pick(20), pick(6)}); else pushOne(4); break;
        }
    }

    private void load() {
        int j = pick(16);
        for (int tries = 0; tries < 10 && locals[j] == null; tries++) j = pick(16);
        if (locals[j] == null) return;
        if (locals[j].equals("I") && pick(3) == 0) add(7, j, number(), 0, "");
        else add(5, j, KINDS.indexOf(locals[j]), 0, locals[j]);
    }

    private void store(int argumentWords) {
        if (stack.isEmpty()) return;
        String top = stack.substring(stack.length() - 1);
        int words = top.equals("L") || top.equals("D") ? 2 : 1;
        int from = pick(8) == 0 ? 0 : argumentWords;
        int j = from + pick(17 - words - from);
        add(6, j, KINDS.indexOf(top), 1, "");
        if (j > 0 && locals[j - 1] != null && (locals[j - 1].equals("L") || locals[j - 1].equals("D"))) locals[j - 1] = null;
        locals[j] = top;
        if (words == 2) locals[j + 1] = null;
    }

    /** A move is tried whatever lies there, if its pattern on one-letter values fits. */
    private void move() {
        String w = stack.replace("L", "Ll").replace("D", "Dd");
        String one = "([IFT])";
        String two = "([IFT][IFT]|Ll|Dd)";
        String[][] moves = {{one, ""}, {two, ""}, {one, "$1$1"}, {one + one, "$2$1$2"}, {two + one, "$2$1$2"},
            {two, "$1$1"}, {one + two, "$2$1$2"}, {two + two, "$2$1$2"}, {one + one, "$2$1"}};
        int code = pick(9);
        java.util.regex.Matcher fits = java.util.regex.Pattern.compile(moves[code][0] + "$").matcher(w);
        if (fits.find()) {
            stack = fits.replaceFirst(moves[code][1]).replace("l", "").replace("d", "");
            ops.add(new int[] {8 + code, 0, 0});
        }
    }

    private void calculate() {
        if (stack.endsWith("LL")) {
            if (pick(3) == 0) add(19, 0, 0, 2, "I"); else add(17, pick(8), 1, 2, "L");
        } else if (stack.endsWith("LI")) {
            add(17, 8 + pick(3), 1, 2, "L");
        } else if (stack.endsWith("II")) {
            add(17, pick(11), 0, 2, "I");
        } else if (stack.endsWith("FF")) {
            add(19, 1 + pick(2), 0, 2, "I");
        } else if (stack.endsWith("DD")) {
            add(19, 3 + pick(2), 0, 2, "I");
        } else if (stack.endsWith("L")) {
            if (pick(2) == 0) add(18, 3, 0, 1, "I"); else add(17, 11, 1, 1, "L");
        } else if (stack.endsWith("I")) {
            int a = pick(5);
            if (a == 3) add(17, 11, 0, 1, "I"); else add(18, a, 0, 1, a == 4 ? "L" : "I");
        } else {
            pushOne(stack.isEmpty() ? 0 : KINDS.indexOf(stack.charAt(stack.length() - 1)) % 4);
        }
    }

    private void jump() {
        while (stack.length() > 1 && words() > 1) {
            dropTop();
        }
        if (stack.equals("I")) {
            if (tableCount > 0 && pick(2) == 0) {
                // Behind it stands what no way comes to; another block begins there, as it were.
                add(23, tableBase + pick(tableCount), 0, 1, "");
                ops.add(new int[] {20, plainBlock(), 0});
            } else {
                add(21, plainBlock(), pick(6), 1, "");
            }
        } else if (stack.equals("T")) {
            if (pick(2) == 0) {
                add(10, 0, 0, 0, "T");
                add(22, catchingBlock(), pick(2), 1, "");
            } else {
                add(22, plainBlock(), pick(2), 1, "");
            }
        }
    }

    private void useThing() {
        if (!stack.endsWith("T")) {
            pushOne(4);
            return;
        }
        int type = 8 * (1 + pick(3)) + pick(8);
        if (type % 8 == 4) type++;
        int sort = pick(8);
        String kind = sort > 4 ? "I" : "" + KINDS.charAt(sort);
        switch (pick(7)) {
            case 0: add(27, 0, 0, 1, "I"); break;
            case 1: add(28, type, 0, 1, "I"); break;
            case 2: if (pick(3) == 0) add(29, type, 0, 1, "T"); break;
            case 3: case 4:
                add(10, 0, 0, 0, "T");
                add(0, pick(6) == 0 ? number() : pick(3), 0, 0, "I");
                add(25, 0, sort, 2, kind);
                break;
            default:
                add(10, 0, 0, 0, "T");
                add(0, pick(6) == 0 ? number() : pick(3), 0, 0, "I");
                if (words() < 10) {
                    pushOne(KINDS.indexOf(kind));
                    add(26, 0, sort, 3, "");
                }
                break;
        }
    }

    private void monitor() {
        if (!stack.endsWith("T")) return;
        add(10, 0, 0, 0, "T");
        add(32, 0, 0, 1, "");
        if (pick(4) > 0) {
            add(10, 0, 0, 0, "T");
            add(33, 0, 0, 1, "");
        }
    }

    private void call() {
        int m = pick(signatures.size());
        int[] signature = signatures.get(m);
        while (!stack.isEmpty() && words() > 2) {
            dropTop();
        }
        for (int k = 1; k < signature.length; k++) {
            pushOne(signature[k]);
        }
        add(35, m, 0, signature.length - 1, signature[0] == 5 ? "" : "" + KINDS.charAt(signature[0]));
    }
}
