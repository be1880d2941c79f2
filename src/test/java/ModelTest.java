/** Generated runs of calls, answered by the matcher and by the model of the document's words. */
public final class ModelTest implements Generator.Target {
    private static final int RUNS = 8000;
    private static final int[] RESULTS = new int[4];

    private final StringBuilder calls = new StringBuilder();
    private SnobolMatcher matcher;
    private Model model;

    public static void main(String[] args) {
        for (int run = 0; run < RUNS && !Check.anyWrong(); run++) {
            new Generator(run, new ModelTest()).run();
        }
        System.out.println("failed " + RESULTS[0] + ", matched " + RESULTS[1] + ", out of steps " + RESULTS[2]);
        for (int result = 0; result <= 2; result++) {
            Check.isTrue("result " + result + " is reached often", RESULTS[result] >= 500);
        }
        Check.finish();
    }

    @Override
    public void create(int maxSubject, int stepLimit, int deferLimit) {
        calls.append("new(" + maxSubject + ", " + stepLimit + ", " + deferLimit + ")");
        matcher = new SnobolMatcher(maxSubject, stepLimit, deferLimit);
        model = new Model(maxSubject, stepLimit, deferLimit);
    }

    @Override
    public int stackDepth() {
        return model.stackDepth();
    }

    @Override
    public void push(int kind, int a, int b) {
        calls.append(" push(" + kind + ", " + a + ", " + b + ")");
        compare(matcher.push(kind, a, b), model.push(kind, a, b));
    }

    @Override
    public void define(int v) {
        calls.append(" define(" + v + ")");
        compare(matcher.define(v), model.define(v));
    }

    @Override
    public void addSubjectChar(int c) {
        calls.append(" addSubjectChar(" + c + ")");
        compare(matcher.addSubjectChar(c), model.addSubjectChar(c));
    }

    @Override
    public void clear(int what) {
        calls.append(" clear " + what);
        if (what == Generator.CLEAR_ALL) {
            matcher.clearAll();
            model.clearAll();
        } else if (what == Generator.CLEAR_SUBJECT) {
            matcher.clearSubject();
            model.clearSubject();
        } else {
            matcher.clearVars();
            model.clearVars();
        }
        compare(0, 0);
    }

    @Override
    public void match(int v, boolean anchored) {
        calls.append(" match(" + v + ", " + anchored + ")");
        int due = model.match(v, anchored);
        compare(matcher.match(v, anchored), due);
        if (due >= 0) {
            RESULTS[due]++;
        }
    }

    private void compare(int got, int want) {
        if (got != want) {
            Check.due(calls.toString(), got, want);
            return;
        }
        String state = Check.state(matcher);
        String due = model.state();
        if (!state.equals(due)) {
            Check.due("state after " + calls, state, due);
        }
    }
}
