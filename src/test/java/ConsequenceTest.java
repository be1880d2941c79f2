/** Promise 8, "Consequences for every match call that is not refused", on generated runs of calls. */
public final class ConsequenceTest implements Generator.Target {
    private static final int RUNS = 4000;
    private static final String WITHOUT_MATCH =
        "On R_FAILED or R_OUT_OF_STEPS, afterwards status(S_START) == status(S_END) == -1, and a string variable w can have "
        + "changed only if the pool holds a node of kind K_IMM with A equal to w.";
    private static final String PLACES =
        "On R_MATCHED, 0 <= start <= end <= n, and start == 0 whenever anchored is true.";
    private static final String TEXTS =
        "Each string variable whose text changed now holds the subject chars from some x to some y with 0 <= x <= y <= n, "
        + "and the pool holds a node of kind K_IMM or K_COND whose A is that variable.";
    private static final String CURSORS =
        "In every case, each cursor variable w whose value changed now holds a value in 0..n, "
        + "and the pool holds a node of kind K_CURSOR whose A is w.";
    private static final int[] RESULTS = new int[3];
    private static int changedTexts = 0;
    private static int changedCursors = 0;

    private SnobolMatcher m;

    public static void main(String[] args) {
        for (int run = 0; run < RUNS && !Check.anyWrong(); run++) {
            // Other runs than those of ModelTest.
            new Generator(1000000 + run, new ConsequenceTest()).run();
        }
        for (int result = 0; result <= 2; result++) {
            Check.isTrue("result " + result + " is reached often", RESULTS[result] >= 250);
        }
        Check.isTrue("texts change often", changedTexts >= 1000);
        Check.isTrue("cursors change often", changedCursors >= 1000);
        placesOfEveryLength();
        Check.finish();
    }

    private static void placesOfEveryLength() {
        Check.sentence(PLACES);
        for (int n = 0; n <= 16; n++) {
            String subject = Case.FULL.substring(0, n);
            Case.of(subject, "ARB RPOS:0 CAT").matches(n).finds(0, n);
            Case.of(subject, "RPOS:0").finds(n, n);
            Case.of(subject, "EMPTY").matches(0).finds(0, 0);
        }
    }

    @Override
    public void create(int maxSubject, int stepLimit, int deferLimit) {
        m = new SnobolMatcher(maxSubject, stepLimit, deferLimit);
    }

    @Override
    public int stackDepth() {
        return m.status(SnobolMatcher.S_STACK);
    }

    @Override
    public void push(int kind, int a, int b) {
        m.push(kind, a, b);
    }

    @Override
    public void define(int v) {
        m.define(v);
    }

    @Override
    public void addSubjectChar(int c) {
        m.addSubjectChar(c);
    }

    @Override
    public void clear(int what) {
        if (what == Generator.CLEAR_ALL) {
            m.clearAll();
        } else if (what == Generator.CLEAR_SUBJECT) {
            m.clearSubject();
        } else {
            m.clearVars();
        }
    }

    @Override
    public void match(int v, boolean anchored) {
        String[] texts = new String[8];
        int[] cursors = new int[8];
        for (int w = 0; w < 8; w++) {
            texts[w] = Check.var(m, w);
            cursors[w] = m.cursorVar(w);
        }
        int result = m.match(v, anchored);
        if (result < 0) {
            return;
        }
        RESULTS[result]++;
        places(result, anchored);
        for (int w = 0; w < 8; w++) {
            if (!Check.var(m, w).equals(texts[w])) {
                changedText(result, w);
            }
            if (m.cursorVar(w) != cursors[w]) {
                changedCursor(w);
            }
        }
    }

    private void places(int result, boolean anchored) {
        int start = m.status(SnobolMatcher.S_START);
        int end = m.status(SnobolMatcher.S_END);
        if (result == SnobolMatcher.R_MATCHED) {
            Check.sentence(PLACES);
            int n = m.status(SnobolMatcher.S_SUBJECT);
            Check.isTrue("0 <= " + start + " <= " + end + " <= " + n, 0 <= start && start <= end && end <= n);
            Check.isTrue("start == 0 whenever anchored is true", start == 0 || !anchored);
        } else {
            Check.sentence(WITHOUT_MATCH);
            Check.due("S_START without a match", start, -1);
            Check.due("S_END without a match", end, -1);
        }
    }

    private void changedText(int result, int w) {
        changedTexts++;
        Check.sentence(result == SnobolMatcher.R_MATCHED ? TEXTS : WITHOUT_MATCH);
        StringBuilder subject = new StringBuilder();
        for (int i = 0; i < m.status(SnobolMatcher.S_SUBJECT); i++) {
            subject.append(m.subjectChar(i));
        }
        boolean assigns = poolHolds(SnobolMatcher.K_IMM, w)
            || result == SnobolMatcher.R_MATCHED && poolHolds(SnobolMatcher.K_COND, w);
        Check.isTrue("the pool holds a node that writes string variable " + w, assigns);
        Check.isTrue("a changed text is of the subject", subject.indexOf(Check.var(m, w)) >= 0);
    }

    private void changedCursor(int w) {
        changedCursors++;
        Check.sentence(CURSORS);
        int value = m.cursorVar(w);
        Check.isTrue("the pool holds a K_CURSOR of " + w, poolHolds(SnobolMatcher.K_CURSOR, w));
        Check.isTrue("a changed cursor is in 0..n", 0 <= value && value <= m.status(SnobolMatcher.S_SUBJECT));
    }

    private boolean poolHolds(int kind, int a) {
        for (int i = 0; i < m.status(SnobolMatcher.S_NODES); i++) {
            if (m.nodeField(i, SnobolMatcher.F_KIND) == kind && m.nodeField(i, SnobolMatcher.F_A) == a) {
                return true;
            }
        }
        return false;
    }
}
