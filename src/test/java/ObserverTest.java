/** Promises 9 to 15: the methods that tell of the state. */
public final class ObserverTest {
    private static final int MIN = Integer.MIN_VALUE;
    private static final int MAX = Integer.MAX_VALUE;
    /** Far off, some of them so that a product or a sum with them wraps around into an array. */
    private static final int[] FAR = {MIN, MIN + 1, MIN / 2, -858993459, -429496729, -268435456, -160, -16, -5, -1,
        32, 160, 65536, 1 << 27, 1 << 28, 429496730, 858993460, MAX / 2, MAX - 16, MAX - 5, MAX - 1, MAX};

    public static void main(String[] args) {
        statusOfResults();
        statusOfStartAndEnd();
        statusOfCounts();
        statusOfOtherItems();
        varLengths();
        varChars();
        cursorVars();
        patternRoots();
        nodeFields();
        stackEntries();
        subjectChars();
        observersChangeNothing();
        Check.finish();
    }

    private static void statusOfResults() {
        Check.sentence("S_RESULT: the last result (R_NONE if no match ran since the initial state).");
        SnobolMatcher m = new SnobolMatcher(16, 16, 8);
        resultIs(m, SnobolMatcher.R_NONE);
        m.match(0, true);
        m.match(4, true);
        resultIs(m, SnobolMatcher.R_NONE);
        Postfix.define(m, 0, "EMPTY");
        Postfix.define(m, 1, "FAIL");
        Postfix.define(m, 2, "EMPTY" + Postfix.times(16, "FENCE"));
        resultIs(m, SnobolMatcher.R_NONE);
        for (int v = 0; v < 9; v++) {
            int[] due = {SnobolMatcher.R_MATCHED, SnobolMatcher.R_FAILED, SnobolMatcher.R_OUT_OF_STEPS};
            // Each result after each other one.
            int pattern = new int[] {0, 1, 2, 0, 2, 1, 1, 0, 0}[v];
            Check.due("match", m.match(pattern, true), due[pattern]);
            resultIs(m, due[pattern]);
            m.match(3, true);
            m.match(-1, true);
            m.push(0, 0, 0);
            resultIs(m, due[pattern]);
        }
        m.clearAll();
        resultIs(m, SnobolMatcher.R_NONE);
    }

    private static void resultIs(SnobolMatcher m, int due) {
        Check.due("status(S_RESULT)", m.status(SnobolMatcher.S_RESULT), due);
    }

    private static void statusOfStartAndEnd() {
        Check.sentence("S_START, S_END: the last start and end (-1 unless the last result is R_MATCHED).");
        SnobolMatcher m = new SnobolMatcher(16, 16, 8);
        placesAre(m, -1, -1);
        Check.subject(m, Case.FULL);
        Postfix.define(m, 0, "LEN:16");
        Postfix.define(m, 1, "FAIL");
        Postfix.define(m, 2, "EMPTY" + Postfix.times(16, "FENCE"));
        Postfix.define(m, 3, "RPOS:0");
        m.match(0, true);
        placesAre(m, 0, 16);
        m.match(1, false);
        placesAre(m, -1, -1);
        m.match(3, false);
        placesAre(m, 16, 16);
        m.match(2, false);
        placesAre(m, -1, -1);
        m.match(0, false);
        placesAre(m, 0, 16);
        m.match(4, false);
        placesAre(m, 0, 16);
        m.clearAll();
        placesAre(m, -1, -1);
    }

    private static void placesAre(SnobolMatcher m, int start, int end) {
        Check.due("status(S_START)", m.status(SnobolMatcher.S_START), start);
        Check.due("status(S_END)", m.status(SnobolMatcher.S_END), end);
    }

    private static void statusOfCounts() {
        Check.sentence("S_NODES: the node count. S_STACK: the build stack depth. S_SUBJECT: the subject length.");
        SnobolMatcher m = Check.fresh();
        for (int i = 0; i < 16; i++) {
            countsAre(m, i, i, i);
            m.push(SnobolMatcher.K_EMPTY, 0, 0);
            countsAre(m, i + 1, i + 1, i);
            m.addSubjectChar(0);
        }
        for (int i = 0; i < 16; i++) {
            countsAre(m, 16 + i, 16, 16);
            m.push(SnobolMatcher.K_FENCE, 0, 0);
        }
        for (int i = 16; i > 0; i--) {
            countsAre(m, 32, i, 16);
            m.define(0);
        }
        countsAre(m, 32, 0, 16);
        m.clearSubject();
        countsAre(m, 32, 0, 0);
        m.clearAll();
        countsAre(m, 0, 0, 0);
    }

    private static void countsAre(SnobolMatcher m, int nodes, int stack, int subject) {
        Check.due("status(S_NODES)", m.status(SnobolMatcher.S_NODES), nodes);
        Check.due("status(S_STACK)", m.status(SnobolMatcher.S_STACK), stack);
        Check.due("status(S_SUBJECT)", m.status(SnobolMatcher.S_SUBJECT), subject);
    }

    private static void statusOfOtherItems() {
        Check.sentence("Any other item: -1.");
        SnobolMatcher m = Check.used();
        for (int item : FAR) {
            Check.due("status(" + item + ")", m.status(item), -1);
        }
        for (int item = 6; item <= 20; item++) {
            Check.due("status(" + item + ")", m.status(item), -1);
        }
    }

    /** Texts of all lengths: string variable v holds 2v + 2 chars of the subject, the last one all 16. */
    private static SnobolMatcher withTexts() {
        SnobolMatcher m = Check.fresh();
        Check.subject(m, Case.FULL);
        for (int v = 0; v < 8; v++) {
            Postfix.define(m, 0, "LEN:" + (2 * v + 2) + " IMM:" + v);
            Check.due("match", m.match(0, true), SnobolMatcher.R_MATCHED);
        }
        return m;
    }

    private static void varLengths() {
        Check.sentence("`varLength(v)` answers the length of string variable v (0..16); if v is not in 0..7 it answers -1.");
        SnobolMatcher m = withTexts();
        for (int v = 0; v < 8; v++) {
            Check.due("varLength(" + v + ")", m.varLength(v), 2 * v + 2);
            Check.due("varLength(" + v + ") of none", Check.fresh().varLength(v), 0);
        }
        for (int v : FAR) {
            Check.due("varLength(" + v + ")", m.varLength(v), -1);
        }
        Check.due("varLength(8)", m.varLength(8), -1);
        Check.due("varLength(9)", m.varLength(9), -1);
    }

    private static void varChars() {
        Check.sentence("`varChar(v, i)` answers char i of string variable v; "
            + "if v is not in 0..7 or i is not in 0..length-1 it answers 0.");
        SnobolMatcher m = withTexts();
        for (int v = 0; v < 8; v++) {
            for (int i = 0; i <= 40; i++) {
                Check.due("varChar(" + v + ", " + i + ")", m.varChar(v, i), i < 2 * v + 2 ? Case.FULL.charAt(i) : 0);
            }
            for (int i : FAR) {
                Check.due("varChar(" + v + ", " + i + ")", m.varChar(v, i), 0);
            }
        }
        for (int v : FAR) {
            for (int i : new int[] {MIN, -1, 0, 1, 15, 16, 112, 128, MAX}) {
                Check.due("varChar(" + v + ", " + i + ")", m.varChar(v, i), 0);
            }
        }
        Check.due("varChar(8, 0)", m.varChar(8, 0), 0);
        Check.due("varChar(8, -1)", m.varChar(8, -1), 0);
        Check.due("varChar(7, -16)", m.varChar(7, -16), 0);
        // A shorter text leaves nothing to see of a longer one; neither does clearVars.
        Postfix.define(m, 0, "LEN:1 IMM:7");
        m.match(0, true);
        for (int i = 0; i < 16; i++) {
            Check.due("varChar(7, " + i + ") of a shorter text", m.varChar(7, i), i == 0 ? '0' : 0);
        }
        m.clearVars();
        Check.due("varChar(7, 0) of the empty text", m.varChar(7, 0), 0);
        // Chars 0 and 65535 are told like any others.
        Case c = Case.of("\u0000\uffff", "LEN:2 IMM:0").matches(2);
        Check.due("length of chars 0 and 65535", c.m.varLength(0), 2);
        Check.due("varChar(0, 0)", c.m.varChar(0, 0), 0);
        Check.due("varChar(0, 1)", c.m.varChar(0, 1), 65535);
    }

    private static void cursorVars() {
        Check.sentence("`cursorVar(v)` answers cursor variable v; -1 if v is not in 0..7, "
            + "and also -1 when it was never written since the initial state or the last clearVars.");
        Case c = Case.of(Case.FULL, "CURSOR:0 LEN:16 CAT CURSOR:7 CAT");
        for (int v = 0; v < 8; v++) {
            c.cursor(v, -1);
        }
        c.matches(16);
        for (int v = 0; v < 8; v++) {
            c.cursor(v, v == 0 ? 0 : v == 7 ? 16 : -1);
        }
        for (int v : FAR) {
            c.cursor(v, -1);
        }
        c.cursor(8, -1).cursor(9, -1);
        c.m.clearVars();
        c.cursor(0, -1).cursor(7, -1);
        c.matches(16).cursor(0, 0).cursor(7, 16);
        c.m.clearAll();
        c.cursor(0, -1).cursor(7, -1);
    }

    private static void patternRoots() {
        Check.sentence("`patternRoot(v)` answers the root node number of pattern variable v; "
            + "-1 if v is not in 0..3 or pattern variable v is undefined.");
        SnobolMatcher m = Check.fresh();
        for (int i = 0; i < 28; i++) {
            m.push(SnobolMatcher.K_EMPTY, 0, 0);
            m.define(0);
        }
        for (int v = 3; v >= 0; v--) {
            for (int w = 1; w < 4; w++) {
                Check.due("patternRoot(" + w + ")", m.patternRoot(w), w > v ? 31 - w : -1);
            }
            m.push(SnobolMatcher.K_EMPTY, 0, 0);
            m.define(v);
            Check.due("patternRoot(" + v + ")", m.patternRoot(v), 31 - v);
        }
        for (int v : FAR) {
            Check.due("patternRoot(" + v + ")", m.patternRoot(v), -1);
        }
        for (int v = 4; v <= 8; v++) {
            Check.due("patternRoot(" + v + ")", m.patternRoot(v), -1);
        }
        Check.due("patternRoot(0) of none", Check.fresh().patternRoot(0), -1);
    }

    private static void nodeFields() {
        Check.sentence("`nodeField(i, f)` answers field f (F_KIND, F_A, F_B, F_LEFT, F_RIGHT) of node i as stored by push; "
            + "-1 if i is not in 0..nodeCount-1 or f is not in 0..4.");
        SnobolMatcher m = Check.fresh();
        for (int count = 0; count < 32; count++) {
            Check.due("node " + count + " before it is there", m.nodeField(count, SnobolMatcher.F_KIND), -1);
            m.push(SnobolMatcher.K_SPAN, count, 1000 + count);
            m.define(0);
            fieldsOfSpan(m, count);
        }
        for (int i = 0; i < 32; i++) {
            fieldsOfSpan(m, i);
        }
        for (int far : FAR) {
            Check.due("nodeField(" + far + ", 0)", m.nodeField(far, 0), -1);
            Check.due("nodeField(" + far + ", 4)", m.nodeField(far, 4), -1);
            Check.due("nodeField(0, " + far + ")", m.nodeField(0, far), -1);
            Check.due("nodeField(31, " + far + ")", m.nodeField(31, far), -1);
            Check.due("nodeField(" + far + ", " + far + ")", m.nodeField(far, far), -1);
        }
        Check.due("nodeField(-1, 5)", m.nodeField(-1, 5), -1);
        m.clearAll();
        m.push(SnobolMatcher.K_EMPTY, 0, 0);
        Check.due("a node from before clearAll", m.nodeField(1, SnobolMatcher.F_KIND), -1);
    }

    private static void fieldsOfSpan(SnobolMatcher m, int i) {
        int[] due = {SnobolMatcher.K_SPAN, i, 1000 + i, -1, -1};
        for (int f = -5; f <= 10; f++) {
            Check.due("nodeField(" + i + ", " + f + ")", m.nodeField(i, f), f < 0 || f > 4 ? -1 : due[f]);
        }
    }

    private static void stackEntries() {
        Check.sentence("`stackEntry(k)` answers build stack entry k (0 = bottom), a node number; -1 if k is not in 0..depth-1.");
        SnobolMatcher m = Check.fresh();
        for (int depth = 0; depth <= 16; depth++) {
            for (int k = 0; k <= 20; k++) {
                Check.due("stackEntry(" + k + ") of " + depth, m.stackEntry(k), k < depth ? k : -1);
            }
            for (int k : FAR) {
                Check.due("stackEntry(" + k + ") of " + depth, m.stackEntry(k), -1);
            }
            if (depth < 16) {
                m.push(SnobolMatcher.K_EMPTY, 0, 0);
            }
        }
        m.push(SnobolMatcher.K_CAT, 0, 0);
        Check.due("stackEntry(14) after CAT", m.stackEntry(14), 16);
        Check.due("stackEntry(15) after CAT", m.stackEntry(15), -1);
    }

    private static void subjectChars() {
        Check.sentence("`subjectChar(i)` answers subject char i; 0 if i is not in 0..n-1.");
        SnobolMatcher m = Check.fresh();
        for (int n = 0; n <= 16; n++) {
            for (int i = 0; i <= 20; i++) {
                Check.due("subjectChar(" + i + ") of " + n, m.subjectChar(i), i < n ? 65535 - i : 0);
            }
            for (int i : FAR) {
                Check.due("subjectChar(" + i + ") of " + n, m.subjectChar(i), 0);
            }
            m.addSubjectChar(65535 - n);
        }
        Check.subject(m, "a");
        Check.due("a char from before clearSubject", m.subjectChar(1), 0);
    }

    private static void observersChangeNothing() {
        Check.sentence("Neither call changes anything.");
        for (SnobolMatcher m : new SnobolMatcher[] {Check.fresh(), Check.used(), States.failed(), States.outOfSteps(),
                States.fullPoolAndStack()}) {
            String before = Check.state(m);
            for (int x : FAR) {
                observe(m, x);
            }
            for (int x = 0; x <= 33; x++) {
                observe(m, x);
            }
            Check.due("after every observer", Check.state(m), before);
        }
    }

    private static void observe(SnobolMatcher m, int x) {
        m.status(x);
        m.varLength(x);
        m.cursorVar(x);
        m.patternRoot(x);
        m.stackEntry(x);
        m.subjectChar(x);
        for (int y = -1; y <= 17; y++) {
            m.varChar(x, y);
            m.varChar(y, x);
            m.nodeField(x, y);
            m.nodeField(y, x);
        }
    }
}
