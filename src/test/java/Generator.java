/** Runs of calls made from a number, the same ones for the same number. */
final class Generator {
    /** What the calls of a run are made on. */
    interface Target {
        void create(int maxSubject, int stepLimit, int deferLimit);
        void push(int kind, int a, int b);
        void define(int v);
        void addSubjectChar(int c);
        void clear(int what);
        void match(int v, boolean anchored);
        int stackDepth();
    }

    static final int CLEAR_ALL = 0;
    static final int CLEAR_SUBJECT = 1;
    static final int CLEAR_VARS = 2;

    private static final int[] LEAVES = {1, 1, 1, 2, 3, 4, 5, 6, 7, 8, 9, 10, 10, 11, 11, 12, 12};
    private static final int[] UNARIES = {13, 13, 14, 15, 15, 16, 16};
    private static final int[] BINARIES = {17, 17, 18};
    private static final int[] ODD = {Integer.MIN_VALUE, -1, 0, 1, 3, 4, 7, 8, 16, 17, 65535, 65536, Integer.MAX_VALUE};

    private long seed;
    private final Target target;

    Generator(long seed, Target target) {
        this.seed = seed;
        this.target = target;
        below(1);
    }

    private int below(int bound) {
        seed = seed * 6364136223846793005L + 1442695040888963407L;
        return (int) ((seed >>> 33) % bound);
    }

    private int oneOf(int[] values) {
        return values[below(values.length)];
    }

    void run() {
        int maxSubject = below(4) == 0 ? below(20) - 1 : 16;
        int stepLimit = below(3) == 0 ? below(270) : below(2) == 0 ? 250 : 16 + below(60);
        int deferLimit = below(3) == 0 ? below(11) - 1 : 8;
        target.create(maxSubject, stepLimit, deferLimit);
        int length = 20 + below(60);
        for (int i = 0; i < length; i++) {
            oneCall();
        }
        for (int v = 0; v < 4; v++) {
            target.define(v);
            target.match(v, true);
            target.match(v, false);
        }
    }

    private void oneCall() {
        int which = below(100);
        if (which < 66) {
            pushSome();
        } else if (which < 73) {
            target.define(below(20) == 0 ? oneOf(ODD) : below(4));
        } else if (which < 90) {
            target.addSubjectChar(below(40) == 0 ? oneOf(ODD) : 'a' + below(3));
        } else if (which < 98) {
            target.match(below(20) == 0 ? oneOf(ODD) : below(4), below(2) == 0);
        } else {
            int what = below(10);
            target.clear(what == 0 ? CLEAR_ALL : what < 6 ? CLEAR_SUBJECT : CLEAR_VARS);
        }
    }

    private void pushSome() {
        if (below(25) == 0) {
            target.push(below(2) == 0 ? oneOf(ODD) : 1 + below(18), oneOf(ODD), oneOf(ODD));
            return;
        }
        int depth = target.stackDepth();
        int kind = below(3) == 0 ? oneOf(LEAVES)
            : depth >= 2 && below(3) > 0 ? oneOf(BINARIES)
            : depth >= 1 && below(2) == 0 ? oneOf(UNARIES) : oneOf(LEAVES);
        int a = kind == 1 || kind >= 7 && kind <= 9 ? 'a' + below(3)
            : kind == 12 ? below(4) : kind == 11 || kind >= 15 ? below(below(2) == 0 ? 8 : 2) : below(5);
        target.push(kind, a, kind >= 7 && kind <= 9 ? a + below(2) : below(3));
    }
}
