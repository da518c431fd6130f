import java.util.ArrayList;
import java.util.List;
import java.util.Random;

/** Random runs of calls, of which each answer must be the model's too; promises 1 to 20. */
public final class RandomRunsTest {
    private static int goodRuns = 0;
    private static final int[] answers = new int[4];
    private static final int[] faults = new int[9];
    private static final int[] failures = new int[16];

    public static void main(String[] args) {
        int runs = args.length > 0 ? Integer.parseInt(args[0]) : 4000;
        int wrong = 0;
        for (int seed = 0; seed < runs && wrong < 3; seed++) {
            boolean alike = seed % 8 == 7 ? wildRun(new Random(seed)) : madeRun(new Random(seed));
            if (!alike) {
                wrong++;
                System.out.println("the run with seed " + seed + " is not as the model's");
            }
        }
        System.out.println(runs + " runs, " + goodRuns + " GOOD, walks answered " + java.util.Arrays.toString(answers)
            + ", FAULTS " + java.util.Arrays.toString(faults) + ", FAILURES " + java.util.Arrays.toString(failures));
        if (wrong != 0 || goodRuns < runs / 10) {
            System.exit(1);
        }
    }

    private static long bits(Random r) {
        switch (r.nextInt(6)) {
            case 0: return r.nextInt(5) - 2;
            case 1: return Double.doubleToRawLongBits(r.nextInt(7) - 3);
            case 2: return 0x7ff0000000000000L + r.nextInt(3) - 1;
            case 3: return Long.MIN_VALUE >> r.nextInt(2);
            case 4: return r.nextLong() >> r.nextInt(64);
            default: return r.nextInt(200);
        }
    }

    /** METHODS that are mostly GOOD, walked, then altered a little and judged and walked again. */
    private static boolean madeRun(Random r) {
        Pair x = new Pair();
        List<int[]> signatures = new ArrayList<>();
        for (int c = 1 + r.nextInt(6); c > 0; c--) {
            x.constant(bits(r));
        }
        int methods = 1 + r.nextInt(3);
        for (int m = 0; m < methods; m++) {
            int[] signature = new int[1 + r.nextInt(4)];
            for (int k = 0; k < signature.length; k++) {
                signature[k] = r.nextInt(k == 0 ? 6 : 5);
            }
            x.method(signature[0]);
            for (int k = 1; k < signature.length; k++) {
                x.argument(m, signature[k]);
            }
            signatures.add(signature);
        }
        for (int m = 0; m < methods; m++) {
            new Maker(r, x, signatures).make(m, signatures.get(m)[0]);
        }
        judgeAndWalk(x, r, signatures);
        for (int change = r.nextInt(3); change > 0; change--) {
            int m = r.nextInt(methods);
            x.alter(m, r.nextInt(40), r.nextInt(36), r.nextInt(12), r.nextInt(5));
            judgeAndWalk(x, r, signatures);
        }
        return x.alike;
    }

    private static void judgeAndWalk(Pair x, Random r, List<int[]> signatures) {
        boolean allGood = true;
        for (int m = 0; m < signatures.size(); m++) {
            int answer = x.judge(m);
            allGood &= answer == 0;
            if (answer < 0) faults[-10 - answer]++;
            x.good(m);
            for (int i = 0; i < 60; i += 1 + r.nextInt(4)) {
                for (int k = -17; k < 12; k += 1 + r.nextInt(3)) {
                    x.shape(m, i, k);
                }
            }
        }
        x.fault(0);
        x.fault(1);
        if (allGood) goodRuns++;
        for (int walk = 0; walk < 6; walk++) {
            int m = r.nextInt(signatures.size());
            int given = signatures.get(m).length - 1 + (r.nextInt(12) == 0 ? 1 : 0);
            while (x.count(3) < given) {
                x.give(bits(r));
            }
            int answer = x.walk(m, r.nextInt(3) == 0 ? r.nextInt(60) : 3000);
            if (answer >= 0) answers[answer]++;
            lookAtWalk(x, r);
        }
    }

    private static void lookAtWalk(Pair x, Random r) {
        x.value();
        for (int what = -1; what < 10; what++) {
            x.told(what);
        }
        if (x.told(0) >= 0) failures[x.told(0)]++;
        int things = Math.max(0, x.told(5));
        for (int i = -1; i <= things; i++) {
            for (int what = 0; what < 4; what++) {
                x.thing(i, what);
            }
            for (int k = -1; k < 3; k++) {
                x.cell(i, k);
            }
        }
    }

    /** Any calls with any numbers, mostly small. */
    private static boolean wildRun(Random r) {
        Pair x = new Pair();
        for (int call = 0; call < 500; call++) {
            int a = wild(r);
            int b = wild(r);
            int m = r.nextInt(3) - r.nextInt(20) / 19;
            switch (r.nextInt(24)) {
                case 0: if (r.nextInt(4) == 0) x.method(r.nextInt(7)); break;
                case 1: if (r.nextInt(4) == 0) x.argument(m, r.nextInt(6)); break;
                case 2: case 3: case 4: case 5: x.op(m, r.nextInt(37), a, b); break;
                case 6: case 7: x.alter(m, wild(r), r.nextInt(36), a, b); break;
                case 8: x.handler(m, wild(r), wild(r), a, b); break;
                case 9: x.constant(bits(r)); break;
                case 10: x.table(r.nextBoolean(), a, b); break;
                case 11: case 12: x.entry(m, a, b); break;
                case 13: x.count(a); break;
                case 14: case 15: case 16: x.judge(m); break;
                case 17: x.fault(r.nextInt(3)); break;
                case 18: x.good(m); break;
                case 19: x.shape(m, a, b); break;
                case 20: x.give(bits(r)); break;
                case 21: x.walk(m, wild(r)); break;
                case 22: x.told(a); x.value(); break;
                default: x.thing(a, b); x.cell(a, b); break;
            }
        }
        return x.alike;
    }

    private static int wild(Random r) {
        return r.nextInt(15) == 0 ? r.nextInt() : r.nextInt(r.nextInt(3) == 0 ? 64 : 8) - r.nextInt(2);
    }
}
