import java.util.ArrayList;
import java.util.List;
import java.util.Set;
import java.util.TreeSet;

/**
 * OPERATIONS 8 to 16, read from the document's own marks, on every STACK of one- and two-WORD values up to six WORDS:
 * "where a mark | stands, also at both ends of what is told, no value is parted".
 */
public final class MovesTest {
    private static final Checks C = new Checks();
    private static final Runs R = new Runs(C);
    private static final String[] MOVES = {
        "|w| -> ", "|w w| -> ", "|w| -> w w", "|v|w| -> w v w", "|u v|w| -> w u v w", "|v w| -> v w v w",
        "|u|v w| -> v w u v w", "|t u|v w| -> v w t u v w", "|v|w| -> w v",
    };
    private static final int[] ONE_WORD = {0, 2, 4}, TWO_WORDS = {1, 3};
    private static final int INT = 0, FLOAT = 2, THING = 4;

    /** One WORD of a value: the first (0) or the second (1) one of so many. */
    private record Word(int value, int half) {
    }

    private final int[] kinds;
    private final List<Word> words = new ArrayList<>();

    private MovesTest(int[] widths) {
        kinds = new int[widths.length];
        for (int v = 0; v < widths.length; v++) {
            kinds[v] = widths[v] == 1 ? ONE_WORD[v % ONE_WORD.length] : TWO_WORDS[v % TWO_WORDS.length];
            for (int half = 0; half < widths[v]; half++) {
                words.add(new Word(v, half));
            }
        }
    }

    public static void main(String[] args) {
        stacks(new int[0], 6);
        C.finish();
    }

    private static void stacks(int[] widths, int room) {
        MovesTest stack = new MovesTest(widths);
        for (int code = 8; code <= 16; code++) {
            stack.moveBy(code);
        }
        for (int width = 1; width <= Math.min(2, room); width++) {
            int[] more = java.util.Arrays.copyOf(widths, widths.length + 1);
            more[widths.length] = width;
            stacks(more, room - width);
        }
    }

    /** The WORDS behind a move, or null if it parts a value or finds too few. */
    private List<Word> moved(String move) {
        int arrow = move.indexOf("->");
        StringBuilder letters = new StringBuilder();
        Set<Integer> marks = new TreeSet<>();
        for (char c : move.substring(0, arrow).replace(" ", "").toCharArray()) {
            if (c == '|') {
                marks.add(letters.length());
            } else {
                letters.append(c);
            }
        }
        int base = words.size() - letters.length();
        if (base < 0) {
            return null;
        }
        for (int mark : marks) {
            if (base + mark < words.size() && words.get(base + mark).half() == 1) {
                return null;
            }
        }
        List<Word> behind = new ArrayList<>(words.subList(0, base));
        for (char c : move.substring(arrow + 2).replace(" ", "").toCharArray()) {
            behind.add(words.get(base + letters.indexOf("" + c)));
        }
        return behind;
    }

    private SeldomOps withMove(int result, int code) {
        SeldomOps x = new SeldomOps();
        x.method(result);
        for (int v = 0; v < kinds.length; v++) {
            x.constant(bitsOf(v));
            if (kinds[v] == THING) {
                x.op(0, 30, v, 0);
            } else {
                x.op(0, kinds[v], kinds[v] == INT || kinds[v] == FLOAT ? (int) bitsOf(v) : v, 0);
            }
        }
        x.op(0, code, 0, 0);
        return x;
    }

    /** What value() tells of a value; of a THING, how many THINGS were made ahead of it. */
    private long bitsOf(int value) {
        if (kinds[value] == THING) {
            int ahead = 0;
            for (int v = 0; v < value; v++) {
                ahead += kinds[v] == THING ? 1 : 0;
            }
            return ahead;
        }
        return Programs.width(kinds[value]) == 2 ? -70_000_000_000L - value : 100 + value;
    }

    private void moveBy(int code) {
        String what = code + " on " + words;
        List<Word> behind = moved(MOVES[code - 8]);
        SeldomOps x = withMove(5, code);
        x.op(0, 34, 5, 0);
        R.judgedAs(what, x, 0, behind == null ? 3 : 0, kinds.length);
        if (behind == null) {
            return;
        }
        int[] shape = new int[behind.size()];
        for (int k = 0; k < shape.length; k++) {
            int kind = kinds[behind.get(k).value()];
            shape[k] = behind.get(k).half() == 0 ? kind : kind == 1 ? 6 : 7;
        }
        R.stackIs(what, x, kinds.length + 1, shape);
        valuesAre(what, code, behind);
    }

    /** Each value that lies there then is looked at by leaving with it, what is above it being dropped. */
    private void valuesAre(String what, int code, List<Word> behind) {
        List<Integer> values = new ArrayList<>();
        for (Word word : behind) {
            if (word.half() == 0) {
                values.add(word.value());
            }
        }
        for (int k = 0; k < values.size(); k++) {
            int kind = kinds[values.get(k)];
            SeldomOps x = withMove(kind, code);
            for (int upper = values.size() - 1; upper > k; upper--) {
                x.op(0, Programs.width(kinds[values.get(upper)]) == 2 ? 9 : 8, 0, 0);
            }
            x.op(0, 34, kind, 0);
            R.walked(what, 0, x);
            C.due(what + ": value " + k, x.value(), bitsOf(values.get(k)));
        }
    }
}
