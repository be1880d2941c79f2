/** Promises 1 to 7 and 9 to 15: the state, what changes it, and what tells it. */
public final class BuildTest {
    private static final int MIN = Integer.MIN_VALUE;
    private static final int MAX = Integer.MAX_VALUE;

    public static void main(String[] args) {
        constructorClampsSubject();
        constructorClampsSteps();
        constructorClampsDefers();
        initialState();
        clearAllKeepsOnlyTheLimits();
        pushTestsInOrder();
        pushRanges();
        pushStoresFields();
        pushFillsStackAndPool();
        pushChangesNothingElse();
        defineNamesTheTop();
        addSubjectCharAppends();
        clearSubjectKeepsTheRest();
        clearVarsKeepsTheRest();
        statusItems();
        observersRefuseWrongArguments();
        Check.finish();
    }

    private static void constructorClampsSubject() {
        int[] given = {MIN, -1, 0, 1, 2, 15, 16, 17, MAX};
        int[] kept = {1, 1, 1, 1, 2, 15, 16, 16, 16};
        for (int i = 0; i < given.length; i++) {
            SnobolMatcher m = new SnobolMatcher(given[i], 250, 8);
            Check.due("capacity of " + given[i], capacity(m), kept[i]);
            m.clearAll();
            Check.due("capacity of " + given[i] + " after clearAll", capacity(m), kept[i]);
        }
    }

    private static int capacity(SnobolMatcher m) {
        int length = 0;
        for (int i = 0; i < 20 && m.addSubjectChar('x') > 0; i++) {
            length++;
        }
        return length;
    }

    private static void constructorClampsSteps() {
        int[] given = {MIN, -1, 15, 16, 17, 100, 249, 250, 251, MAX};
        int[] kept = {16, 16, 16, 16, 17, 100, 249, 250, 250, 250};
        for (int i = 0; i < given.length; i++) {
            SnobolMatcher m = new SnobolMatcher(16, given[i], 8);
            Check.due("steps of " + given[i], exactSteps(m, kept[i]), SnobolMatcher.R_FAILED);
            Check.due("steps of " + given[i] + " and 1", exactSteps(m, kept[i] + 1), SnobolMatcher.R_OUT_OF_STEPS);
        }
    }

    /** The steps that ARB ARB FAIL takes to fail with the given number of chars right of the cursor. */
    private static int twoArbs(int right) {
        return 2 + 2 * (right + 1) + (right + 1) * (right + 2) / 2;
    }

    /** The result of an anchored match that needs exactly the given number of steps, 15 to 281, to fail. */
    private static int exactSteps(SnobolMatcher m, int steps) {
        for (int n = 0; n <= 16; n++) {
            for (int right = 0; right <= n; right++) {
                int fences = steps - 5 - twoArbs(n) - twoArbs(right);
                if (fences >= 0 && fences <= 22) {
                    return failingMatch(m, n, right, fences);
                }
            }
        }
        return -100;
    }

    private static int failingMatch(SnobolMatcher m, int n, int right, int fences) {
        m.clearAll();
        Check.subject(m, "xxxxxxxxxxxxxxxx".substring(0, n));
        m.push(SnobolMatcher.K_ARB, 0, 0);
        m.push(SnobolMatcher.K_ARB, 0, 0);
        m.push(SnobolMatcher.K_FAIL, 0, 0);
        m.push(SnobolMatcher.K_CAT, 0, 0);
        m.push(SnobolMatcher.K_CAT, 0, 0);
        m.define(1);
        m.push(SnobolMatcher.K_LEN, n - right, 0);
        m.push(SnobolMatcher.K_DEFER, 1, 0);
        m.push(SnobolMatcher.K_CAT, 0, 0);
        m.push(SnobolMatcher.K_DEFER, 1, 0);
        m.push(SnobolMatcher.K_ALT, 0, 0);
        for (int i = 0; i < fences; i++) {
            m.push(SnobolMatcher.K_FENCE, 0, 0);
        }
        m.define(0);
        return m.match(0, true);
    }

    private static void constructorClampsDefers() {
        int[] given = {MIN, -1, 0, 1, 5, 7, 8, 9, MAX};
        int[] kept = {0, 0, 0, 1, 5, 7, 8, 8, 8};
        for (int i = 0; i < given.length; i++) {
            SnobolMatcher m = new SnobolMatcher(16, 250, given[i]);
            Check.subject(m, "aaaaaaaaaaaaaaaa");
            m.push(SnobolMatcher.K_LIT, 'a', 0);
            m.push(SnobolMatcher.K_DEFER, 0, 0);
            m.push(SnobolMatcher.K_CAT, 0, 0);
            m.push(SnobolMatcher.K_EMPTY, 0, 0);
            m.push(SnobolMatcher.K_ALT, 0, 0);
            m.define(0);
            m.match(0, true);
            Check.due("defers of " + given[i], m.status(SnobolMatcher.S_END), kept[i]);
        }
    }

    private static void initialState() {
        SnobolMatcher m = Check.fresh();
        isInitial("new object", m);
        for (int v = 0; v < 4; v++) {
            Check.due("match of undefined", m.match(v, true), SnobolMatcher.E_UNDEFINED);
        }
        isInitial("new object after refused matches", m);
    }

    private static void isInitial(String when, SnobolMatcher m) {
        int[] due = {SnobolMatcher.R_NONE, -1, -1, 0, 0, 0};
        for (int item = 0; item < due.length; item++) {
            Check.due(when + ": status(" + item + ")", m.status(item), due[item]);
        }
        for (int v = 0; v < 8; v++) {
            Check.due(when + ": varLength", m.varLength(v), 0);
            Check.due(when + ": varChar", m.varChar(v, 0), 0);
            Check.due(when + ": cursorVar", m.cursorVar(v), -1);
        }
        for (int v = 0; v < 4; v++) {
            Check.due(when + ": patternRoot", m.patternRoot(v), -1);
        }
        Check.due(when + ": nodeField", m.nodeField(0, 0), -1);
        Check.due(when + ": stackEntry", m.stackEntry(0), -1);
        Check.due(when + ": subjectChar", m.subjectChar(0), 0);
    }

    /** An object with something in every part of its state. */
    private static SnobolMatcher used(int maxSubject, int stepLimit, int deferLimit) {
        SnobolMatcher m = new SnobolMatcher(maxSubject, stepLimit, deferLimit);
        Check.subject(m, "abc");
        m.push(SnobolMatcher.K_LIT, 'b', 0);
        m.push(SnobolMatcher.K_IMM, 1, 0);
        m.push(SnobolMatcher.K_COND, 7, 0);
        m.push(SnobolMatcher.K_CURSOR, 3, 0);
        m.push(SnobolMatcher.K_CAT, 0, 0);
        m.define(2);
        m.push(SnobolMatcher.K_EMPTY, 0, 0);
        m.push(SnobolMatcher.K_FAIL, 0, 0);
        Check.due("match of b", m.match(2, false), SnobolMatcher.R_MATCHED);
        return m;
    }

    private static void clearAllKeepsOnlyTheLimits() {
        SnobolMatcher m = used(3, 16, 1);
        m.clearAll();
        isInitial("after clearAll", m);
        Check.due("first node after clearAll", m.push(SnobolMatcher.K_EMPTY, 0, 0), 0);
        m.clearAll();
        Check.due("capacity after clearAll", capacity(m), 3);
        Check.due("16 steps after clearAll", exactSteps(m, 16), SnobolMatcher.R_FAILED);
        Check.due("17 steps after clearAll", exactSteps(m, 17), SnobolMatcher.R_OUT_OF_STEPS);
        m.clearAll();
        m.push(SnobolMatcher.K_EMPTY, 0, 0);
        m.define(0);
        m.push(SnobolMatcher.K_DEFER, 0, 0);
        m.define(1);
        m.push(SnobolMatcher.K_DEFER, 1, 0);
        m.define(2);
        Check.due("one defer after clearAll", m.match(1, true), SnobolMatcher.R_MATCHED);
        Check.due("two defers after clearAll", m.match(2, true), SnobolMatcher.R_FAILED);
    }

    private static void refused(SnobolMatcher m, int kind, int a, int b, int due) {
        String before = Check.state(m);
        String call = "push(" + kind + ", " + a + ", " + b + ")";
        Check.due(call, m.push(kind, a, b), due);
        Check.due(call + " changes", Check.state(m), before);
    }

    private static void pushTestsInOrder() {
        SnobolMatcher m = used(16, 250, 8);
        m.clearAll();
        int[] badKinds = {MIN, -1, 0, 19, 20, MAX};
        for (int kind : badKinds) {
            refused(m, kind, -1, -1, SnobolMatcher.E_KIND);
        }
        refused(m, SnobolMatcher.K_IMM, 8, 0, SnobolMatcher.E_ARG);
        refused(m, SnobolMatcher.K_COND, -1, 0, SnobolMatcher.E_ARG);
        for (int kind = SnobolMatcher.K_ARBNO; kind <= SnobolMatcher.K_ALT; kind++) {
            refused(m, kind, 0, 0, SnobolMatcher.E_UNDERFLOW);
        }
        m.push(SnobolMatcher.K_EMPTY, 0, 0);
        refused(m, SnobolMatcher.K_CAT, 0, 0, SnobolMatcher.E_UNDERFLOW);
        refused(m, SnobolMatcher.K_ALT, 0, 0, SnobolMatcher.E_UNDERFLOW);
        for (int i = 1; i < 16; i++) {
            m.push(SnobolMatcher.K_EMPTY, 0, 0);
        }
        refused(m, SnobolMatcher.K_LIT, 65536, 0, SnobolMatcher.E_ARG);
        for (int kind = SnobolMatcher.K_LIT; kind <= SnobolMatcher.K_DEFER; kind++) {
            refused(m, kind, 0, 0, SnobolMatcher.E_STACK_FULL);
        }
        for (int i = 16; i < 32; i++) {
            Check.due("unary on a full stack", m.push(SnobolMatcher.K_FENCE, 0, 0), i);
        }
        for (int kind = SnobolMatcher.K_LIT; kind <= SnobolMatcher.K_ALT; kind++) {
            refused(m, kind, 0, 0, SnobolMatcher.E_POOL_FULL);
        }
        refused(m, 19, 0, 0, SnobolMatcher.E_KIND);
        refused(m, SnobolMatcher.K_LEN, 17, 0, SnobolMatcher.E_ARG);
        for (int i = 0; i < 16; i++) {
            m.define(0);
        }
        refused(m, SnobolMatcher.K_ARBNO, 0, 0, SnobolMatcher.E_UNDERFLOW);
        refused(m, SnobolMatcher.K_CAT, 0, 0, SnobolMatcher.E_UNDERFLOW);
        refused(m, SnobolMatcher.K_LIT, 0, 0, SnobolMatcher.E_POOL_FULL);
    }

    private static int greatestA(int kind) {
        int[] greatest = {0, 65535, -1, -1, 16, 16, 16, 65535, 65535, 65535, -1, 7, 3, -1, -1, 7, 7, -1, -1};
        return greatest[kind];
    }

    private static boolean isRange(int kind) {
        return kind >= SnobolMatcher.K_ANY && kind <= SnobolMatcher.K_BREAK;
    }

    private static void pushRanges() {
        int[] values = {MIN, -65536, -1, 0, 1, 3, 4, 7, 8, 16, 17, 65534, 65535, 65536, MAX};
        for (int kind = 1; kind <= 18; kind++) {
            for (int a : values) {
                for (int b : values) {
                    boolean fits = greatestA(kind) < 0
                        || (a >= 0 && a <= greatestA(kind) && (!isRange(kind) || (a <= b && b <= 65535)));
                    SnobolMatcher m = Check.fresh();
                    m.push(SnobolMatcher.K_EMPTY, 0, 0);
                    m.push(SnobolMatcher.K_FAIL, 0, 0);
                    String call = "push(" + kind + ", " + a + ", " + b + ")";
                    Check.due(call, m.push(kind, a, b), fits ? 2 : SnobolMatcher.E_ARG);
                    Check.due(call + " nodes", m.status(SnobolMatcher.S_NODES), fits ? 3 : 2);
                    if (fits) {
                        Check.due(call + " A", m.nodeField(2, SnobolMatcher.F_A), greatestA(kind) < 0 ? 0 : a);
                        Check.due(call + " B", m.nodeField(2, SnobolMatcher.F_B), isRange(kind) ? b : 0);
                    }
                }
            }
        }
    }

    private static void node(SnobolMatcher m, int i, int kind, int a, int b, int left, int right) {
        int[] due = {kind, a, b, left, right};
        for (int f = 0; f < due.length; f++) {
            Check.due("nodeField(" + i + ", " + f + ")", m.nodeField(i, f), due[f]);
        }
    }

    private static void pushStoresFields() {
        SnobolMatcher m = Check.fresh();
        m.push(SnobolMatcher.K_LIT, 65535, 9);
        m.push(SnobolMatcher.K_SPAN, 'a', 'z');
        m.push(SnobolMatcher.K_ARB, 5, 6);
        Check.due("depth after leaves", m.status(SnobolMatcher.S_STACK), 3);
        Check.due("binary", m.push(SnobolMatcher.K_CAT, 7, 8), 3);
        Check.due("depth after binary", m.status(SnobolMatcher.S_STACK), 2);
        Check.due("entry 1", m.stackEntry(1), 3);
        Check.due("unary", m.push(SnobolMatcher.K_COND, 6, 8), 4);
        Check.due("depth after unary", m.status(SnobolMatcher.S_STACK), 2);
        Check.due("entry 0", m.stackEntry(0), 0);
        Check.due("entry 1 after unary", m.stackEntry(1), 4);
        Check.due("entry 2", m.stackEntry(2), -1);
        Check.due("second binary", m.push(SnobolMatcher.K_ALT, MIN, MAX), 5);
        Check.due("entry 0 after all", m.stackEntry(0), 5);
        node(m, 0, SnobolMatcher.K_LIT, 65535, 0, -1, -1);
        node(m, 1, SnobolMatcher.K_SPAN, 'a', 'z', -1, -1);
        node(m, 2, SnobolMatcher.K_ARB, 0, 0, -1, -1);
        node(m, 3, SnobolMatcher.K_CAT, 0, 0, 1, 2);
        node(m, 4, SnobolMatcher.K_COND, 6, 0, 3, -1);
        node(m, 5, SnobolMatcher.K_ALT, 0, 0, 0, 4);
        node(m, 6, -1, -1, -1, -1, -1);
    }

    private static void pushFillsStackAndPool() {
        SnobolMatcher m = Check.fresh();
        for (int i = 0; i < 16; i++) {
            Check.due("leaf " + i, m.push(SnobolMatcher.K_LEN, i, 0), i);
        }
        for (int i = 0; i < 15; i++) {
            Check.due("binary " + i, m.push(SnobolMatcher.K_CAT, 0, 0), 16 + i);
        }
        Check.due("last node", m.push(SnobolMatcher.K_LIT, 1, 0), 31);
        Check.due("past the pool", m.push(SnobolMatcher.K_LIT, 1, 0), SnobolMatcher.E_POOL_FULL);
        node(m, 16, SnobolMatcher.K_CAT, 0, 0, 14, 15);
        node(m, 30, SnobolMatcher.K_CAT, 0, 0, 0, 29);
        node(m, 31, SnobolMatcher.K_LIT, 1, 0, -1, -1);
        Check.due("entry 0", m.stackEntry(0), 30);
        Check.due("entry 1", m.stackEntry(1), 31);
    }

    private static String unbuilt(SnobolMatcher m) {
        String s = Check.vars(m);
        for (int v = 0; v < 4; v++) {
            s += " " + m.patternRoot(v);
        }
        for (int i = 0; i < 16; i++) {
            s += " " + (int) m.subjectChar(i);
        }
        for (int i = 0; i < 5; i++) {
            for (int f = 0; f < 5; f++) {
                s += " " + m.nodeField(i, f);
            }
        }
        return s + " " + m.status(0) + " " + m.status(1) + " " + m.status(2) + " " + m.status(5);
    }

    private static void pushChangesNothingElse() {
        SnobolMatcher m = used(16, 250, 8);
        String before = unbuilt(m);
        m.push(SnobolMatcher.K_LIT, 3, 0);
        m.push(SnobolMatcher.K_FENCE, 3, 0);
        m.push(SnobolMatcher.K_ALT, 3, 0);
        Check.due("after pushes", unbuilt(m), before);
    }

    private static void defineNamesTheTop() {
        SnobolMatcher m = Check.fresh();
        int[] bad = {MIN, -1, 4, MAX};
        for (int v : bad) {
            Check.due("define(" + v + ") on an empty stack", m.define(v), SnobolMatcher.E_ARG);
        }
        Check.due("define on an empty stack", m.define(3), SnobolMatcher.E_UNDERFLOW);
        m = used(16, 250, 8);
        String before = Check.state(m);
        for (int v : bad) {
            Check.due("define(" + v + ")", m.define(v), SnobolMatcher.E_ARG);
        }
        Check.due("after refused defines", Check.state(m), before);
        Check.due("define(0)", m.define(0), 6);
        Check.due("patternRoot(0)", m.patternRoot(0), 6);
        Check.due("patternRoot(2)", m.patternRoot(2), 4);
        Check.due("stack after define", m.status(SnobolMatcher.S_STACK), 1);
        Check.due("entry 0 after define", m.stackEntry(0), 5);
        Check.due("entry 1 after define", m.stackEntry(1), -1);
        Check.due("define(2) again", m.define(2), 5);
        Check.due("patternRoot(2) again", m.patternRoot(2), 5);
        Check.due("patternRoot(0) still", m.patternRoot(0), 6);
        Check.due("nodes after defines", m.status(SnobolMatcher.S_NODES), 7);
        Check.due("define with nothing left", m.define(1), SnobolMatcher.E_UNDERFLOW);
        Check.due("patternRoot(1)", m.patternRoot(1), -1);
        SnobolMatcher other = used(16, 250, 8);
        Check.due("vars after define", Check.vars(m), Check.vars(other));
        for (int item = 0; item <= 2; item++) {
            Check.due("status after define", m.status(item), other.status(item));
        }
    }

    private static void addSubjectCharAppends() {
        SnobolMatcher m = used(5, 250, 8);
        int[] bad = {MIN, -1, 65536, MAX};
        String before = Check.state(m);
        for (int c : bad) {
            Check.due("addSubjectChar(" + c + ")", m.addSubjectChar(c), SnobolMatcher.E_ARG);
        }
        Check.due("after refused chars", Check.state(m), before);
        String vars = Check.vars(m);
        Check.due("addSubjectChar(0)", m.addSubjectChar(0), 4);
        Check.due("addSubjectChar(65535)", m.addSubjectChar(65535), 5);
        Check.due("subjectChar(0)", m.subjectChar(0), 'a');
        Check.due("subjectChar(2)", m.subjectChar(2), 'c');
        Check.due("subjectChar(3)", m.subjectChar(3), 0);
        Check.due("subjectChar(4)", m.subjectChar(4), 65535);
        Check.due("vars after chars", Check.vars(m), vars);
        before = Check.state(m);
        Check.due("past the capacity", m.addSubjectChar('x'), SnobolMatcher.E_SUBJECT_FULL);
        for (int c : bad) {
            Check.due("bad char on a full subject", m.addSubjectChar(c), SnobolMatcher.E_ARG);
        }
        Check.due("after chars past the capacity", Check.state(m), before);
    }

    private static void clearSubjectKeepsTheRest() {
        SnobolMatcher m = used(16, 250, 8);
        m.clearSubject();
        Check.due("length", m.status(SnobolMatcher.S_SUBJECT), 0);
        Check.due("char 0", m.subjectChar(0), 0);
        Check.due("result", m.status(SnobolMatcher.S_RESULT), SnobolMatcher.R_MATCHED);
        Check.due("start", m.status(SnobolMatcher.S_START), 1);
        Check.due("end", m.status(SnobolMatcher.S_END), 2);
        Check.subject(m, "xyz");
        Check.due("var 1 is a copy", Check.var(m, 1), "b");
        Check.due("var 7 is a copy", Check.var(m, 7), "b");
        Check.subject(m, "abc");
        SnobolMatcher other = used(16, 250, 8);
        Check.due("after the same subject again", Check.state(m), Check.state(other));
    }

    private static void clearVarsKeepsTheRest() {
        SnobolMatcher m = used(16, 250, 8);
        Check.due("cursor 3", m.cursorVar(3), 2);
        m.clearVars();
        Check.due("vars", Check.vars(m), Check.vars(Check.fresh()));
        SnobolMatcher other = used(16, 250, 8);
        String mine = Check.state(m);
        String its = Check.state(other);
        Check.due("the rest", mine.substring(0, mine.indexOf("vars")), its.substring(0, its.indexOf("vars")));
    }

    private static void statusItems() {
        SnobolMatcher m = used(16, 250, 8);
        int[] due = {SnobolMatcher.R_MATCHED, 1, 2, 7, 2, 3};
        for (int item = 0; item < due.length; item++) {
            Check.due("status(" + item + ")", m.status(item), due[item]);
        }
        int[] bad = {MIN, -1, 6, 7, MAX};
        for (int item : bad) {
            Check.due("status(" + item + ")", m.status(item), -1);
        }
        Check.due("match that fails", m.match(2, true), SnobolMatcher.R_FAILED);
        Check.due("result", m.status(SnobolMatcher.S_RESULT), SnobolMatcher.R_FAILED);
        Check.due("start", m.status(SnobolMatcher.S_START), -1);
        Check.due("end", m.status(SnobolMatcher.S_END), -1);
    }

    private static void observersRefuseWrongArguments() {
        SnobolMatcher m = used(16, 250, 8);
        String before = Check.state(m);
        int[] far = {MIN, MIN + 1, -429496729, -1, 8, 32, 1 << 28, 429496730, 858993460, MAX - 1, MAX};
        for (int x : far) {
            Check.due("varLength(" + x + ")", m.varLength(x), -1);
            Check.due("varChar(" + x + ", 0)", m.varChar(x, 0), 0);
            Check.due("varChar(1, " + x + ")", m.varChar(1, x), 0);
            Check.due("cursorVar(" + x + ")", m.cursorVar(x), -1);
            Check.due("patternRoot(" + x + ")", m.patternRoot(x), -1);
            Check.due("nodeField(" + x + ", 0)", m.nodeField(x, 0), -1);
            Check.due("nodeField(0, " + x + ")", m.nodeField(0, x), -1);
            Check.due("stackEntry(" + x + ")", m.stackEntry(x), -1);
            Check.due("subjectChar(" + x + ")", m.subjectChar(x), 0);
        }
        Check.due("varChar(1, 0)", m.varChar(1, 0), 'b');
        Check.due("varChar(1, 1)", m.varChar(1, 1), 0);
        Check.due("varChar(0, 0)", m.varChar(0, 0), 0);
        Check.due("patternRoot(4)", m.patternRoot(4), -1);
        Check.due("nodeField(7, 0)", m.nodeField(7, 0), -1);
        Check.due("nodeField(0, 5)", m.nodeField(0, 5), -1);
        Check.due("stackEntry(2)", m.stackEntry(2), -1);
        Check.due("subjectChar(3)", m.subjectChar(3), 0);
        Check.due("after observers", Check.state(m), before);
    }
}
