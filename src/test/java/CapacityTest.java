import java.util.function.Supplier;
import java.util.function.ToIntFunction;

/** The document's first part, "What it is", and promises 1 and 2: what an object holds at the most and at first. */
public final class CapacityTest {
    private static final int MIN = Integer.MIN_VALUE;
    private static final int MAX = Integer.MAX_VALUE;

    public static void main(String[] args) {
        fourPatternVariables();
        subjectsUpToTheCapacity();
        eightStringVariables();
        eightCursorVariables();
        charsAreNumbers();
        poolOf32();
        poolIsFreedByClearAllAlone();
        stackOf16();
        refusedCallsChangeNothing();
        objectsShareNothing();
        constructorTakesAnyInt();
        subjectCapacity();
        stepLimit();
        deferralLimit();
        belowAboveAndInside();
        initialState();
        clearAllGivesTheInitialState();
        clearAllKeepsTheLimits();
        Check.finish();
    }

    private static void fourPatternVariables() {
        Check.sentence("A finished tree is named by one of 4 pattern variables (0..3).");
        SnobolMatcher m = Check.fresh();
        for (int v = 0; v < 4; v++) {
            Postfix.define(m, v, "EMPTY LEN:" + v + " CAT");
        }
        for (int v = 0; v < 4; v++) {
            Check.due("patternRoot(" + v + ")", m.patternRoot(v), 3 * v + 2);
        }
        Postfix.push(m, "EMPTY");
        Check.due("define(-1)", m.define(-1), SnobolMatcher.E_ARG);
        Check.due("define(4)", m.define(4), SnobolMatcher.E_ARG);
    }

    private static void subjectsUpToTheCapacity() {
        Check.sentence("the subject, a string of up to maxSubject chars");
        for (int max = 1; max <= 16; max++) {
            SnobolMatcher m = new SnobolMatcher(max, 250, 8);
            Postfix.define(m, 0, "ARB IMM:0 RPOS:0 CAT");
            for (int length = 0; length <= max; length++) {
                Check.subject(m, Case.FULL.substring(0, length));
                Check.due("match", m.match(0, true), SnobolMatcher.R_MATCHED);
                Check.due("text of the whole", Check.var(m, 0), Case.FULL.substring(0, length));
            }
            Check.due("a char more", m.addSubjectChar('x'), SnobolMatcher.E_SUBJECT_FULL);
        }
    }

    private static void eightStringVariables() {
        Check.sentence("Matching can write 8 string variables (0..7, texts of 0..16 chars)");
        for (String assign : new String[] {"IMM", "COND"}) {
            for (int length = 0; length <= 16; length++) {
                for (int v = 0; v < 8; v++) {
                    oneTextAmongFullOnes(assign, v, length);
                }
            }
        }
    }

    private static void oneTextAmongFullOnes(String assign, int v, int length) {
        Case c = new Case(Case.FULL, 250, 8);
        StringBuilder all = new StringBuilder("LEN:16");
        for (int w = 0; w < 8; w++) {
            all.append(" IMM:").append(w);
        }
        c.pattern(0, all.toString()).matches(16);
        c.pattern(0, "LEN:" + length + " " + assign + ":" + v).matches(length);
        for (int w = 0; w < 8; w++) {
            c.text(w, w == v ? Case.FULL.substring(0, length) : Case.FULL);
        }
    }

    private static void eightCursorVariables() {
        Check.sentence("and 8 cursor variables (0..7, ints)");
        for (int v = 0; v < 8; v++) {
            Case c = Case.of("ab", "LEN:2 CURSOR:" + v + " CAT").matches(2);
            for (int w = 0; w < 8; w++) {
                c.cursor(w, w == v ? 2 : -1);
            }
        }
    }

    private static void charsAreNumbers() {
        Check.sentence("Chars are compared as numbers 0..65535.");
        char[] chars = {0, 1, 0x7f, 0x80, 0xff, 0x100, 0x7fff, 0x8000, 0xd800, 0xdfff, 0xfffe, 0xffff};
        for (int s = 0; s < chars.length; s++) {
            for (int a = 0; a < chars.length; a++) {
                oneChar(chars[s], SnobolMatcher.K_LIT, chars[a], 0, s == a ? 1 : -1);
                for (int b = a; b < chars.length; b++) {
                    boolean within = a <= s && s <= b;
                    oneChar(chars[s], SnobolMatcher.K_ANY, chars[a], chars[b], within ? 1 : -1);
                    oneChar(chars[s], SnobolMatcher.K_SPAN, chars[a], chars[b], within ? 1 : -1);
                    oneChar(chars[s], SnobolMatcher.K_BREAK, chars[a], chars[b], within ? 0 : -1);
                }
            }
        }
    }

    private static void oneChar(char subject, int kind, int a, int b, int end) {
        SnobolMatcher m = Check.fresh();
        m.addSubjectChar(subject);
        m.push(kind, a, b);
        m.define(0);
        m.match(0, true);
        Check.due(Postfix.name(kind) + " " + a + ".." + b + " on " + (int) subject, m.status(SnobolMatcher.S_END), end);
    }

    private static void poolOf32() {
        Check.sentence("the node pool holds POOL = 32 nodes, numbered 0, 1, 2, ... in order of creation");
        SnobolMatcher m = Check.fresh();
        for (int i = 0; i < 32; i++) {
            Check.due("a wrong kind", m.push(0, 0, 0), SnobolMatcher.E_KIND);
            Check.due("a wrong argument", m.push(SnobolMatcher.K_LEN, 17, 0), SnobolMatcher.E_ARG);
            Check.due("node " + i, m.push(SnobolMatcher.K_LEN, i / 2, 0), i);
            Check.due("its name", m.define(i % 4), i);
        }
        Check.due("a node more", m.push(SnobolMatcher.K_LEN, 0, 0), SnobolMatcher.E_POOL_FULL);
        for (int i = 0; i < 32; i++) {
            Check.due("node " + i + " A", m.nodeField(i, SnobolMatcher.F_A), i / 2);
        }
    }

    private static void poolIsFreedByClearAllAlone() {
        Check.sentence("never freed except by clearAll");
        SnobolMatcher m = Check.fresh();
        Check.subject(m, "a");
        for (int i = 0; i < 32; i++) {
            m.push(SnobolMatcher.K_EMPTY, 0, 0);
            m.define(0);
        }
        m.match(0, false);
        m.clearSubject();
        m.clearVars();
        Check.due("nodes no variable names", m.status(SnobolMatcher.S_NODES), 32);
        Check.due("a push", m.push(SnobolMatcher.K_EMPTY, 0, 0), SnobolMatcher.E_POOL_FULL);
        m.clearAll();
        for (int i = 0; i < 32; i++) {
            Check.due("node " + i + " after clearAll", m.push(SnobolMatcher.K_EMPTY, 0, 0), i);
            m.define(0);
        }
    }

    private static void stackOf16() {
        Check.sentence("The build stack holds STACK = 16 entries (node numbers), entry 0 being the bottom.");
        SnobolMatcher m = Check.fresh();
        m.push(SnobolMatcher.K_EMPTY, 0, 0);
        m.define(0);
        for (int k = 0; k < 16; k++) {
            Check.due("entry " + k, m.push(SnobolMatcher.K_EMPTY, 0, 0), k + 1);
        }
        Check.due("an entry more", m.push(SnobolMatcher.K_EMPTY, 0, 0), SnobolMatcher.E_STACK_FULL);
        for (int k = 0; k < 16; k++) {
            Check.due("stackEntry(" + k + ")", m.stackEntry(k), k + 1);
        }
        Check.due("stackEntry(16)", m.stackEntry(16), -1);
        for (int k = 15; k >= 0; k--) {
            Check.due("the top is popped", m.define(0), k + 1);
            Check.due("the bottom stays", m.stackEntry(0), k == 0 ? -1 : 1);
        }
    }

    private static void refusedCallsChangeNothing() {
        Check.sentence("Every refused call (one answering a negative E_ code) changes nothing.");
        boolean[] seen = new boolean[8];
        for (Supplier<SnobolMatcher> state : States.all()) {
            int refusals = 0;
            for (ToIntFunction<SnobolMatcher> call : States.calls()) {
                SnobolMatcher m = state.get();
                int answer = call.applyAsInt(m);
                if (answer < 0) {
                    refusals++;
                    seen[-answer] = true;
                    sameFromHere(m, state.get());
                }
            }
            Check.isTrue("some calls are refused in every state", refusals >= 20);
        }
        for (int code = 1; code <= 7; code++) {
            Check.isTrue("refusal " + -code + " was seen", seen[code]);
        }
    }

    /** Sees that both objects tell the same now and after any of the calls. */
    private static void sameFromHere(SnobolMatcher m, SnobolMatcher twin) {
        Check.due("after a refused call", Check.state(m), Check.state(twin));
        for (ToIntFunction<SnobolMatcher> call : States.calls()) {
            Check.due("a call after a refused one", call.applyAsInt(m), call.applyAsInt(twin));
        }
        Check.due("calls after a refused one", Check.state(m), Check.state(twin));
    }

    private static void objectsShareNothing() {
        Check.sentence("After construction (and after clearAll) the object is in the INITIAL STATE");
        SnobolMatcher first = Check.used();
        String before = Check.state(first);
        SnobolMatcher second = new SnobolMatcher(1, 16, 0);
        isInitial("second object", second);
        second.addSubjectChar('z');
        Postfix.define(second, 0, "LIT:z IMM:1 CURSOR:3 CAT");
        second.match(0, true);
        Check.due("the first object", Check.state(first), before);
        second.clearAll();
        Check.due("the first object after clearAll of the second", Check.state(first), before);
    }

    private static void constructorTakesAnyInt() {
        Check.sentence("`SnobolMatcher(maxSubject, stepLimit, deferLimit)` accepts any int values and clamps them");
        int[] values = {MIN, MIN + 1, -1, 0, 1, 8, 16, 250, 65536, MAX};
        for (int maxSubject : values) {
            for (int stepLimit : values) {
                for (int deferLimit : values) {
                    isInitial("new object", new SnobolMatcher(maxSubject, stepLimit, deferLimit));
                }
            }
        }
        // Each limit comes from its own argument.
        SnobolMatcher m = new SnobolMatcher(16, 100, 5);
        Check.due("subject of (16, 100, 5)", Limits.subject(m), 16);
        Limits.steps("(16, 100, 5)", m, 100);
        Check.due("deferrals of (16, 100, 5)", Limits.deferrals(m), 5);
    }

    private static int clamped(int value, int least, int greatest) {
        return value < least ? least : value > greatest ? greatest : value;
    }

    private static final int[] FAR = {MIN, MIN + 1, -65536, -251, -250, -17, -16, -9, -8, -1, 251, 256, 65536, MAX - 1, MAX};

    private static void subjectCapacity() {
        Check.sentence("maxSubject (the subject capacity) into 1..16");
        for (int given = -2; given <= 20; given++) {
            Check.due("of " + given, Limits.subject(new SnobolMatcher(given, 250, 8)), clamped(given, 1, 16));
        }
        for (int given : FAR) {
            Check.due("of " + given, Limits.subject(new SnobolMatcher(given, 250, 8)), given < 1 ? 1 : 16);
        }
    }

    private static void stepLimit() {
        Check.sentence("stepLimit (the step limit L) into 16..250");
        for (int given = -2; given <= 260; given++) {
            Limits.steps("of " + given, new SnobolMatcher(16, given, 8), clamped(given, 16, 250));
        }
        for (int given : FAR) {
            Limits.steps("of " + given, new SnobolMatcher(16, given, 8), given < 16 ? 16 : 250);
        }
    }

    private static void deferralLimit() {
        Check.sentence("deferLimit (the deferral limit D) into 0..8");
        for (int given = -2; given <= 20; given++) {
            Check.due("of " + given, Limits.deferrals(new SnobolMatcher(16, 250, given)), clamped(given, 0, 8));
        }
        for (int given : FAR) {
            Check.due("of " + given, Limits.deferrals(new SnobolMatcher(16, 250, given)), given < 0 ? 0 : 8);
        }
    }

    private static void belowAboveAndInside() {
        Check.sentence("A value below the least becomes the least; a value above the greatest becomes the greatest; "
            + "values inside the range are kept.");
        int[][] subjects = {{0, 1}, {1, 1}, {2, 2}, {15, 15}, {16, 16}, {17, 16}};
        for (int[] pair : subjects) {
            Check.due("subject of " + pair[0], Limits.subject(new SnobolMatcher(pair[0], MAX, MAX)), pair[1]);
        }
        int[][] steps = {{15, 16}, {16, 16}, {17, 17}, {249, 249}, {250, 250}, {251, 250}};
        for (int[] pair : steps) {
            Limits.steps("steps of " + pair[0], new SnobolMatcher(MAX, pair[0], MAX), pair[1]);
        }
        int[][] deferrals = {{-1, 0}, {0, 0}, {1, 1}, {7, 7}, {8, 8}, {9, 8}};
        for (int[] pair : deferrals) {
            Check.due("deferrals of " + pair[0], Limits.deferrals(new SnobolMatcher(MAX, MAX, pair[0])), pair[1]);
        }
    }

    private static void initialState() {
        Check.sentence("After construction (and after clearAll) the object is in the INITIAL STATE: no nodes; an empty build stack; "
            + "all pattern variables undefined; an empty subject; every string variable the empty text (length 0); "
            + "every cursor variable -1; last result R_NONE; last start -1; last end -1.");
        isInitial("new object", Check.fresh());
        SnobolMatcher m = Check.fresh();
        for (int v = 0; v < 4; v++) {
            Check.due("match(" + v + ")", m.match(v, true), SnobolMatcher.E_UNDEFINED);
        }
        isInitial("new object after refused matches", m);
    }

    /** Each part of the initial state as promise 1 names it. */
    private static void isInitial(String when, SnobolMatcher m) {
        Check.due(when + ": last result", m.status(SnobolMatcher.S_RESULT), SnobolMatcher.R_NONE);
        Check.due(when + ": last start", m.status(SnobolMatcher.S_START), -1);
        Check.due(when + ": last end", m.status(SnobolMatcher.S_END), -1);
        Check.due(when + ": nodes", m.status(SnobolMatcher.S_NODES), 0);
        Check.due(when + ": stack", m.status(SnobolMatcher.S_STACK), 0);
        Check.due(when + ": subject", m.status(SnobolMatcher.S_SUBJECT), 0);
        for (int v = 0; v < 8; v++) {
            Check.due(when + ": varLength(" + v + ")", m.varLength(v), 0);
            Check.due(when + ": cursorVar(" + v + ")", m.cursorVar(v), -1);
            Check.due(when + ": patternRoot(" + v + ")", m.patternRoot(v), -1);
        }
        for (int i = 0; i < 32; i++) {
            Check.due(when + ": varChar(0, " + i + ")", m.varChar(0, i), 0);
            Check.due(when + ": nodeField(" + i + ", 0)", m.nodeField(i, 0), -1);
            Check.due(when + ": stackEntry(" + i + ")", m.stackEntry(i), -1);
            Check.due(when + ": subjectChar(" + i + ")", m.subjectChar(i), 0);
        }
    }

    private static void clearAllGivesTheInitialState() {
        Check.sentence("`clearAll()` returns the object to the initial state of Promise 1.");
        for (Supplier<SnobolMatcher> state : States.all()) {
            SnobolMatcher m = state.get();
            m.clearAll();
            isInitial("after clearAll", m);
            m.clearAll();
            isInitial("after a second clearAll", m);
        }
        // What lay in the object before is seen by no later match.
        SnobolMatcher m = Check.used();
        m.clearAll();
        Postfix.define(m, 0, "DEFER:2 LIT:a ALT LEN:1 ALT");
        Check.due("match of what was there", m.match(0, false), SnobolMatcher.R_FAILED);
    }

    private static void clearAllKeepsTheLimits() {
        Check.sentence("The three clamped constructor values (maxSubject, L, D) are kept.");
        int[] limits = {MIN, 0, 3, 15, 16, 17, 100, MAX};
        for (int limit : limits) {
            SnobolMatcher m = Check.used(clamped(limit, 3, 16), 250, 8);
            m.clearAll();
            Check.due("subject", Limits.subject(m), clamped(limit, 3, 16));
            m = Check.used(16, limit, 8);
            m.clearAll();
            Limits.steps("after clearAll", m, clamped(limit, 16, 250));
            m = Check.used(16, 250, limit);
            m.clearAll();
            Check.due("deferrals", Limits.deferrals(m), clamped(limit, 0, 8));
        }
    }
}
