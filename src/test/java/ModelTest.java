/** Generated runs of calls, the same ones on every run of the test, answered by matcher and model. */
public final class ModelTest {
    private static final int RUNS = 8000;
    private static final int[] LEAVES = {1, 1, 1, 2, 3, 4, 5, 6, 7, 8, 9, 10, 10, 11, 11, 12, 12};
    private static final int[] UNARIES = {13, 13, 14, 15, 15, 16, 16};
    private static final int[] BINARIES = {17, 17, 18};
    private static final int[] ODD = {Integer.MIN_VALUE, -1, 0, 1, 3, 4, 7, 8, 16, 17, 65535, 65536, Integer.MAX_VALUE};

    private static long seed;
    private static final int[] results = new int[4];
    private static StringBuilder calls;
    private static SnobolMatcher matcher;
    private static Model model;

    private static int below(int bound) {
        seed = seed * 6364136223846793005L + 1442695040888963407L;
        return (int) ((seed >>> 33) % bound);
    }

    private static int oneOf(int[] values) {
        return values[below(values.length)];
    }

    public static void main(String[] args) {
        for (int run = 0; run < RUNS && !Check.anyWrong(); run++) {
            seed = run;
            below(1);
            oneRun();
        }
        System.out.println("failed " + results[0] + ", matched " + results[1] + ", out of steps " + results[2]);
        for (int result = 0; result <= 2; result++) {
            Check.due("a result reached often: " + result, results[result] >= 500 ? 1 : 0, 1);
        }
        Check.finish();
    }

    private static void oneRun() {
        int maxSubject = below(4) == 0 ? below(20) - 1 : 16;
        int stepLimit = below(3) == 0 ? below(270) : below(2) == 0 ? 250 : 16 + below(60);
        int deferLimit = below(3) == 0 ? below(11) - 1 : 8;
        calls = new StringBuilder("new(" + maxSubject + ", " + stepLimit + ", " + deferLimit + ")");
        matcher = new SnobolMatcher(maxSubject, stepLimit, deferLimit);
        model = new Model(maxSubject, stepLimit, deferLimit);
        int length = 20 + below(60);
        for (int i = 0; i < length; i++) {
            oneCall();
        }
        for (int v = 0; v < 4; v++) {
            define(v);
            match(v, true);
            match(v, false);
        }
    }

    private static void oneCall() {
        int which = below(100);
        if (which < 66) {
            pushSome();
        } else if (which < 73) {
            define(below(20) == 0 ? oneOf(ODD) : below(4));
        } else if (which < 90) {
            addChar(below(40) == 0 ? oneOf(ODD) : 'a' + below(3));
        } else if (which < 98) {
            match(below(20) == 0 ? oneOf(ODD) : below(4), below(2) == 0);
        } else {
            clearSome(below(10));
        }
    }

    private static void pushSome() {
        if (below(25) == 0) {
            push(below(2) == 0 ? oneOf(ODD) : 1 + below(18), oneOf(ODD), oneOf(ODD));
            return;
        }
        int depth = model.status(4);
        int kind = below(3) == 0 ? oneOf(LEAVES)
            : depth >= 2 && below(3) > 0 ? oneOf(BINARIES)
            : depth >= 1 && below(2) == 0 ? oneOf(UNARIES) : oneOf(LEAVES);
        int a = kind == 1 || kind >= 7 && kind <= 9 ? 'a' + below(3)
            : kind == 12 ? below(4) : kind == 11 || kind >= 15 ? below(below(2) == 0 ? 8 : 2) : below(5);
        push(kind, a, kind >= 7 && kind <= 9 ? a + below(2) : below(3));
    }

    private static void clearSome(int which) {
        if (which == 0) {
            calls.append(" clearAll");
            matcher.clearAll();
            model.clearAll();
        } else if (which < 6) {
            calls.append(" clearSubject");
            matcher.clearSubject();
            model.clearSubject();
        } else {
            calls.append(" clearVars");
            matcher.clearVars();
            model.clearVars();
        }
        compare(0, 0);
    }

    private static void push(int kind, int a, int b) {
        calls.append(" push(" + kind + ", " + a + ", " + b + ")");
        compare(matcher.push(kind, a, b), model.push(kind, a, b));
    }

    private static void define(int v) {
        calls.append(" define(" + v + ")");
        compare(matcher.define(v), model.define(v));
    }

    private static void addChar(int c) {
        calls.append(" addSubjectChar(" + c + ")");
        compare(matcher.addSubjectChar(c), model.addSubjectChar(c));
    }

    private static void match(int v, boolean anchored) {
        calls.append(" match(" + v + ", " + anchored + ")");
        int due = model.match(v, anchored);
        compare(matcher.match(v, anchored), due);
        if (due >= 0) {
            results[due]++;
        }
    }

    private static void compare(int got, int want) {
        if (got != want) {
            Check.due(calls.toString(), got, want);
            return;
        }
        String state = Check.state(matcher);
        String due = model.state();
        if (!state.equals(due)) {
            Check.due("state after " + calls, state, due);
        }
    }
}
