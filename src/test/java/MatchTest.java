/** Promise 8: the elements, the order of outcomes, the lists, the immediate writes, the step limit. */
public final class MatchTest {
    private static final int FAILED = SnobolMatcher.R_FAILED;
    private static final int MATCHED = SnobolMatcher.R_MATCHED;
    private static final int OUT_OF_STEPS = SnobolMatcher.R_OUT_OF_STEPS;

    private static SnobolMatcher m;

    public static void main(String[] args) {
        refusals();
        charLeaves();
        placeLeaves();
        spanAndBreak();
        arbOrder();
        cursorStays();
        catAndAltOrder();
        arbno();
        fence();
        immediate();
        conditional();
        defer();
        starts();
        stepLimitAtTheEdge();
        stepsOfArbno();
        stepsOfDefer();
        stepsAreCountedForEachStart();
        outOfStepsKeepsImmediateWrites();
        deepestRuns();
        nothingElseChanges();
        Check.finish();
    }

    private static void begin(String subject) {
        begin(subject, 250, 8);
    }

    private static void begin(String subject, int stepLimit, int deferLimit) {
        m = new SnobolMatcher(16, stepLimit, deferLimit);
        Check.subject(m, subject);
    }

    private static void leaf(int kind, int a, int b) {
        m.push(kind, a, b);
    }

    private static void lit(char c) {
        m.push(SnobolMatcher.K_LIT, c, 0);
    }

    private static void lits(String text) {
        lit(text.charAt(0));
        for (int i = 1; i < text.length(); i++) {
            lit(text.charAt(i));
            cat();
        }
    }

    private static void empty() {
        m.push(SnobolMatcher.K_EMPTY, 0, 0);
    }

    private static void fail() {
        m.push(SnobolMatcher.K_FAIL, 0, 0);
    }

    private static void arb() {
        m.push(SnobolMatcher.K_ARB, 0, 0);
    }

    private static void cursor(int v) {
        m.push(SnobolMatcher.K_CURSOR, v, 0);
    }

    private static void rpos(int a) {
        m.push(SnobolMatcher.K_RPOS, a, 0);
    }

    private static void deferTo(int v) {
        m.push(SnobolMatcher.K_DEFER, v, 0);
    }

    private static void imm(int v) {
        m.push(SnobolMatcher.K_IMM, v, 0);
    }

    private static void cond(int v) {
        m.push(SnobolMatcher.K_COND, v, 0);
    }

    private static void wrap(int kind) {
        m.push(kind, 0, 0);
    }

    private static void cat() {
        m.push(SnobolMatcher.K_CAT, 0, 0);
    }

    private static void alt() {
        m.push(SnobolMatcher.K_ALT, 0, 0);
    }

    private static void vars(String what, int v, String text) {
        Check.due(what + ": string variable " + v, Check.var(m, v), text);
    }

    private static void matches(String what, boolean anchored, int start, int end) {
        ends(what, anchored, MATCHED, start, end);
    }

    private static void fails(String what, boolean anchored) {
        ends(what, anchored, FAILED, -1, -1);
    }

    private static void runsOut(String what, boolean anchored) {
        ends(what, anchored, OUT_OF_STEPS, -1, -1);
    }

    /** Names what was built last, if anything, as pattern variable 0 and matches it. */
    private static void ends(String what, boolean anchored, int result, int start, int end) {
        m.define(0);
        Check.due(what, m.match(0, anchored), result);
        Check.due(what + ": result", m.status(SnobolMatcher.S_RESULT), result);
        Check.due(what + ": start", m.status(SnobolMatcher.S_START), start);
        Check.due(what + ": end", m.status(SnobolMatcher.S_END), end);
    }

    private static void refusals() {
        begin("a");
        int[] bad = {Integer.MIN_VALUE, -1, 4, Integer.MAX_VALUE};
        lit('a');
        matches("before refusals", true, 0, 1);
        String before = Check.state(m);
        for (int v : bad) {
            Check.due("match(" + v + ")", m.match(v, false), SnobolMatcher.E_ARG);
        }
        for (int v = 1; v < 4; v++) {
            Check.due("match(" + v + ")", m.match(v, false), SnobolMatcher.E_UNDEFINED);
        }
        Check.due("after refusals", Check.state(m), before);
    }

    /** Matches one leaf anchored with the text of a LEN before it; end is -1 if it has no outcome. */
    private static void oneLeaf(String subject, int at, int kind, int a, int b, int end) {
        begin(subject);
        leaf(SnobolMatcher.K_LEN, at, 0);
        leaf(kind, a, b);
        cat();
        String what = "kind " + kind + " (" + a + ", " + b + ") at " + at + " of \"" + subject + "\"";
        ends(what, true, end < 0 ? FAILED : MATCHED, end < 0 ? -1 : 0, end);
    }

    private static void charLeaves() {
        oneLeaf("ab", 0, SnobolMatcher.K_LIT, 'a', 0, 1);
        oneLeaf("ab", 1, SnobolMatcher.K_LIT, 'a', 0, -1);
        oneLeaf("ab", 1, SnobolMatcher.K_LIT, 'b', 0, 2);
        oneLeaf("ab", 2, SnobolMatcher.K_LIT, 'b', 0, -1);
        oneLeaf("", 0, SnobolMatcher.K_LIT, 0, 0, -1);
        oneLeaf("\u0000", 0, SnobolMatcher.K_LIT, 0, 0, 1);
        oneLeaf("\uffff", 0, SnobolMatcher.K_LIT, 65535, 0, 1);
        oneLeaf("\uffff", 0, SnobolMatcher.K_LIT, 0, 0, -1);
        oneLeaf("b", 0, SnobolMatcher.K_ANY, 'b', 'd', 1);
        oneLeaf("d", 0, SnobolMatcher.K_ANY, 'b', 'd', 1);
        oneLeaf("a", 0, SnobolMatcher.K_ANY, 'b', 'd', -1);
        oneLeaf("e", 0, SnobolMatcher.K_ANY, 'b', 'd', -1);
        oneLeaf("c", 1, SnobolMatcher.K_ANY, 'b', 'd', -1);
        oneLeaf("\uffff", 0, SnobolMatcher.K_ANY, 0, 65535, 1);
        oneLeaf("\u8000", 0, SnobolMatcher.K_ANY, 0x7fff, 0x8001, 1);
    }

    private static void placeLeaves() {
        oneLeaf("abc", 1, SnobolMatcher.K_EMPTY, 0, 0, 1);
        oneLeaf("abc", 1, SnobolMatcher.K_FAIL, 0, 0, -1);
        oneLeaf("abc", 1, SnobolMatcher.K_LEN, 0, 0, 1);
        oneLeaf("abc", 1, SnobolMatcher.K_LEN, 2, 0, 3);
        oneLeaf("abc", 1, SnobolMatcher.K_LEN, 3, 0, -1);
        oneLeaf("0123456789abcdef", 0, SnobolMatcher.K_LEN, 16, 0, 16);
        oneLeaf("abc", 1, SnobolMatcher.K_POS, 1, 0, 1);
        oneLeaf("abc", 1, SnobolMatcher.K_POS, 0, 0, -1);
        oneLeaf("abc", 1, SnobolMatcher.K_POS, 2, 0, -1);
        oneLeaf("abc", 3, SnobolMatcher.K_POS, 3, 0, 3);
        oneLeaf("abc", 3, SnobolMatcher.K_RPOS, 0, 0, 3);
        oneLeaf("abc", 2, SnobolMatcher.K_RPOS, 1, 0, 2);
        oneLeaf("abc", 0, SnobolMatcher.K_RPOS, 3, 0, 0);
        oneLeaf("abc", 0, SnobolMatcher.K_RPOS, 4, 0, -1);
        oneLeaf("abc", 1, SnobolMatcher.K_RPOS, 1, 0, -1);
        oneLeaf("", 0, SnobolMatcher.K_RPOS, 0, 0, 0);
    }

    private static void spanAndBreak() {
        oneLeaf("xaab", 1, SnobolMatcher.K_SPAN, 'a', 'a', 3);
        oneLeaf("xaab", 1, SnobolMatcher.K_SPAN, 'a', 'b', 4);
        oneLeaf("xaab", 0, SnobolMatcher.K_SPAN, 'a', 'b', -1);
        oneLeaf("xaab", 4, SnobolMatcher.K_SPAN, 'a', 'b', -1);
        oneLeaf("xaab", 0, SnobolMatcher.K_BREAK, 'a', 'b', 1);
        oneLeaf("xaab", 1, SnobolMatcher.K_BREAK, 'a', 'b', 1);
        oneLeaf("xaab", 1, SnobolMatcher.K_BREAK, 'b', 'b', 3);
        oneLeaf("xaab", 1, SnobolMatcher.K_BREAK, 'c', 'z', -1);
        oneLeaf("xaab", 4, SnobolMatcher.K_BREAK, 'a', 'b', -1);
        begin("aaa");
        leaf(SnobolMatcher.K_SPAN, 'a', 'a');
        lit('a');
        cat();
        fails("a span gives back nothing", false);
        begin("aba");
        leaf(SnobolMatcher.K_BREAK, 'b', 'b');
        rpos(0);
        cat();
        fails("a break goes no further", false);
    }

    private static void arbOrder() {
        begin("abab");
        arb();
        matches("ARB alone", false, 0, 0);
        begin("abab");
        arb();
        lit('b');
        cat();
        matches("the shortest ARB", true, 0, 2);
        begin("abab");
        arb();
        imm(0);
        rpos(0);
        cat();
        matches("the longest ARB", true, 0, 4);
        vars("the longest ARB", 0, "abab");
        begin("abc");
        arb();
        cursor(0);
        cat();
        fail();
        cat();
        fails("ARB exhausted", true);
        Check.due("ARB's last outcome", m.cursorVar(0), 3);
    }

    private static void cursorStays() {
        begin("ab");
        lit('a');
        cursor(5);
        cat();
        lit('x');
        cat();
        fails("cursor before a failure", true);
        Check.due("cursor 5", m.cursorVar(5), 1);
        fails("cursor before a failure", false);
        Check.due("cursor 5 keeps the last write", m.cursorVar(5), 1);
        for (int v = 0; v < 8; v++) {
            Check.due("cursor " + v, m.cursorVar(v), v == 5 ? 1 : -1);
        }
    }

    private static void catAndAltOrder() {
        begin("aab");
        lit('a');
        lits("aa");
        alt();
        imm(0);
        lit('b');
        cat();
        matches("the second alternative", true, 0, 3);
        vars("the second alternative", 0, "aa");
        begin("aab");
        lit('a');
        lits("aa");
        alt();
        cond(0);
        matches("the first alternative", true, 0, 1);
        vars("the first alternative", 0, "a");
        begin("abc");
        arb();
        cond(0);
        arb();
        cond(1);
        cat();
        rpos(0);
        cat();
        matches("the right one moves first", true, 0, 3);
        vars("the right one moves first", 0, "");
        vars("the right one moves first", 1, "abc");
    }

    private static void arbno() {
        begin("ababa");
        lits("ab");
        wrap(SnobolMatcher.K_ARBNO);
        matches("no repetition first", false, 0, 0);
        begin("ababa");
        lits("ab");
        cond(0);
        wrap(SnobolMatcher.K_ARBNO);
        cond(1);
        rpos(1);
        cat();
        matches("two repetitions", true, 0, 4);
        vars("the last repetition wins", 0, "ab");
        vars("the whole", 1, "abab");
        begin("aa");
        empty();
        wrap(SnobolMatcher.K_ARBNO);
        lit('b');
        cat();
        fails("an empty repetition is skipped", false);
        begin("abc");
        arb();
        wrap(SnobolMatcher.K_ARBNO);
        cursor(0);
        cat();
        rpos(0);
        cat();
        matches("an outcome after a skipped one", true, 0, 3);
        begin("abcd");
        leaf(SnobolMatcher.K_LEN, 1, 0);
        leaf(SnobolMatcher.K_LEN, 2, 0);
        alt();
        cond(0);
        wrap(SnobolMatcher.K_ARBNO);
        leaf(SnobolMatcher.K_POS, 3, 0);
        cat();
        matches("depth first", true, 0, 3);
        vars("depth first", 0, "c");
    }

    private static void fence() {
        begin("ab");
        arb();
        wrap(SnobolMatcher.K_FENCE);
        lit('b');
        cat();
        fails("only the first outcome", true);
        matches("but every start", false, 1, 2);
        vars("a fence writes nothing", 0, "");
        begin("ab");
        lit('a');
        empty();
        alt();
        wrap(SnobolMatcher.K_FENCE);
        rpos(2);
        cat();
        fails("the second alternative is fenced off", true);
        begin("aab");
        arb();
        lit('a');
        arb();
        cat();
        wrap(SnobolMatcher.K_FENCE);
        cat();
        lit('b');
        cat();
        matches("choices before the fence stay", true, 0, 3);
        begin("ab");
        fail();
        lit('a');
        alt();
        wrap(SnobolMatcher.K_FENCE);
        matches("backtracking inside until the first outcome", true, 0, 1);
        begin("ab");
        lit('a');
        wrap(SnobolMatcher.K_FENCE);
        lit('a');
        cat();
        lits("ab");
        alt();
        matches("alternatives around a fence stay", true, 0, 2);
        begin("ab");
        fail();
        wrap(SnobolMatcher.K_FENCE);
        empty();
        alt();
        matches("a fence without outcome", true, 0, 0);
    }

    private static void immediate() {
        begin("abc");
        arb();
        imm(3);
        fail();
        cat();
        fails("immediate writes before a failure", true);
        vars("immediate writes before a failure", 3, "abc");
        fails("immediate writes of every start", false);
        vars("immediate writes of every start", 3, "");
        begin("abc");
        lits("bc");
        imm(7);
        imm(0);
        matches("two writes", false, 1, 3);
        vars("two writes", 7, "bc");
        vars("two writes", 0, "bc");
        begin("abc");
        leaf(SnobolMatcher.K_LEN, 2, 0);
        imm(1);
        lit('a');
        imm(1);
        lit('b');
        alt();
        cat();
        fails("no write without an outcome", true);
        vars("no write without an outcome", 1, "ab");
        begin("0123456789abcdef");
        arb();
        imm(0);
        rpos(0);
        cat();
        matches("a text of 16 chars", true, 0, 16);
        vars("a text of 16 chars", 0, "0123456789abcdef");
    }

    private static void conditional() {
        begin("abc");
        lit('a');
        cond(2);
        lit('x');
        cat();
        fails("no conditional write on a failure", true);
        vars("no conditional write on a failure", 2, "");
        begin("abc");
        lit('a');
        cond(2);
        lit('x');
        cat();
        leaf(SnobolMatcher.K_LEN, 2, 0);
        alt();
        matches("the list of a given-up outcome is lost", true, 0, 2);
        vars("the list of a given-up outcome is lost", 2, "");
        begin("abc");
        lit('a');
        cond(0);
        lit('b');
        cond(0);
        cat();
        matches("the later triple wins", true, 0, 2);
        vars("the later triple wins", 0, "b");
        begin("abc");
        lit('a');
        cond(0);
        lit('b');
        cat();
        cond(0);
        matches("the outer triple follows the inner one", true, 0, 2);
        vars("the outer triple follows the inner one", 0, "ab");
        begin("abc");
        lit('a');
        cond(0);
        lit('b');
        imm(0);
        cat();
        matches("triples come after immediate writes", true, 0, 2);
        vars("triples come after immediate writes", 0, "a");
        begin("abc");
        arb();
        cond(1);
        wrap(SnobolMatcher.K_FENCE);
        lit('a');
        cond(2);
        cat();
        matches("a fence keeps the list", true, 0, 1);
        vars("a fence keeps the list", 2, "a");
        m.clearVars();
        Check.subject(m, "xyz");
        fails("a failure", true);
        vars("a failure", 2, "");
        begin("abc");
        lit('a');
        cond(0);
        empty();
        alt();
        wrap(SnobolMatcher.K_FENCE);
        lit('c');
        cat();
        matches("the list of an earlier start is lost", false, 2, 3);
        vars("the list of an earlier start is lost", 0, "");
    }

    private static void defer() {
        begin("aab");
        lit('a');
        arb();
        cat();
        cond(4);
        m.define(1);
        deferTo(1);
        lit('b');
        cat();
        matches("a deferred pattern and its list", true, 0, 3);
        vars("a deferred pattern and its list", 4, "aa");
        begin("a");
        deferTo(3);
        fails("an undefined pattern variable", false);
        begin("a");
        deferTo(3);
        empty();
        alt();
        matches("an alternative to an undefined one", true, 0, 0);
        lit('a');
        m.define(3);
        Check.due("the same pattern, now defined", m.match(0, true), MATCHED);
        Check.due("the same pattern, now defined: end", m.status(SnobolMatcher.S_END), 1);
        for (int limit = 0; limit <= 8; limit++) {
            begin("aaaaaaaaaaaa", 250, limit);
            lit('a');
            deferTo(0);
            cat();
            empty();
            alt();
            matches("a pattern that defers to itself, " + limit, true, 0, limit);
        }
        begin("ab", 250, 1);
        lit('a');
        m.define(1);
        lit('b');
        m.define(2);
        deferTo(1);
        deferTo(2);
        cat();
        matches("depth is of nesting, not of number", true, 0, 2);
        begin("aaa", 250, 1);
        lit('a');
        m.define(1);
        deferTo(1);
        wrap(SnobolMatcher.K_ARBNO);
        rpos(0);
        cat();
        matches("repetitions are at the same depth", true, 0, 3);
    }

    private static void starts() {
        begin("aba");
        lit('b');
        fails("anchored", true);
        matches("unanchored", false, 1, 2);
        begin("aba");
        rpos(0);
        matches("the last start is the length", false, 3, 3);
        fails("anchored at 0", true);
        begin("");
        empty();
        matches("an empty subject, anchored", true, 0, 0);
        matches("an empty subject", false, 0, 0);
        begin("");
        cursor(0);
        fail();
        cat();
        fails("an empty subject has one start", false);
        Check.due("an empty subject has one start", m.cursorVar(0), 0);
    }

    /** The root is FENCE around FENCE ... around EMPTY: as many steps as nodes. */
    private static void stepLimitAtTheEdge() {
        for (int nodes = 15; nodes <= 18; nodes++) {
            begin("a", 16, 8);
            empty();
            for (int i = 1; i < nodes; i++) {
                wrap(SnobolMatcher.K_FENCE);
            }
            if (nodes <= 16) {
                matches(nodes + " steps of 16", false, 0, 0);
            } else {
                runsOut(nodes + " steps of 16", false);
            }
        }
    }

    private interface Build {
        void pattern();
    }

    /** Sees that an anchored match fails with the given number of steps, 17 or more, and not with fewer. */
    private static void needs(String what, String subject, int steps, Build build) {
        begin(subject, steps, 8);
        build.pattern();
        fails(what + " with " + steps + " steps", true);
        begin(subject, steps - 1, 8);
        build.pattern();
        runsOut(what + " with " + (steps - 1) + " steps", true);
    }

    private static void stepsOfArbno() {
        // CAT; repetitions at 0..5, each with a LEN and a FAIL after its first outcome.
        needs("ARBNO(LEN 1) FAIL", "abcde", 1 + 6 * 3, () -> {
            leaf(SnobolMatcher.K_LEN, 1, 0);
            wrap(SnobolMatcher.K_ARBNO);
            fail();
            cat();
        });
        // ARB's first outcome is skipped by the repetition, so it costs nothing.
        // At the end: ARBNO, FAIL, ARB. Before it: these and the same for each place further on.
        needs("ARBNO(ARB) FAIL", "abc", 1 + 3 * (1 + 1 + 2 + 4), () -> {
            arb();
            wrap(SnobolMatcher.K_ARBNO);
            fail();
            cat();
        });
        // CAT, ARB, and a FAIL for each of its outcomes.
        needs("ARB FAIL", "0123456789abcdef", 1 + 1 + 17, () -> {
            arb();
            fail();
            cat();
        });
        // FENCEs, ALT, and ARB FAIL twice.
        needs("ALT of CATs", "ab", 7 + 1 + 5 + 5, () -> {
            arb();
            fail();
            cat();
            arb();
            fail();
            cat();
            alt();
            for (int i = 0; i < 7; i++) {
                wrap(SnobolMatcher.K_FENCE);
            }
        });
    }

    private static void stepsOfDefer() {
        // FENCEs, DEFER, and the root that it refers to: one each.
        needs("DEFER", "", 15 + 1 + 1, () -> {
            fail();
            m.define(1);
            deferTo(1);
            for (int i = 0; i < 15; i++) {
                wrap(SnobolMatcher.K_FENCE);
            }
        });
        needs("DEFER to an undefined one", "", 16 + 1, () -> {
            deferTo(2);
            for (int i = 0; i < 16; i++) {
                wrap(SnobolMatcher.K_FENCE);
            }
        });
        // Depths 0..8: each begins the root CAT, EMPTY, DEFER; the last DEFER begins nothing.
        needs("DEFER to itself", "", 9 * 3, () -> {
            empty();
            deferTo(0);
            cat();
        });
    }

    private static void stepsAreCountedForEachStart() {
        begin("0123456789abcdef", 16, 8);
        fail();
        for (int i = 0; i < 15; i++) {
            wrap(SnobolMatcher.K_FENCE);
        }
        fails("the count is set to 0 at each start", false);
        // Too many steps at start 1 alone.
        begin("ab", 16, 8);
        leaf(SnobolMatcher.K_POS, 1, 0);
        empty();
        for (int i = 0; i < 14; i++) {
            wrap(SnobolMatcher.K_FENCE);
        }
        cat();
        cursor(0);
        leaf(SnobolMatcher.K_POS, 2, 0);
        cat();
        alt();
        fails("out of steps at start 1, not at 0", true);
        runsOut("out of steps ends the whole match", false);
        Check.due("start 2 is not tried", m.cursorVar(0), 0);
    }

    private static void outOfStepsKeepsImmediateWrites() {
        begin("abcdefghij", 16, 8);
        leaf(SnobolMatcher.K_LEN, 1, 0);
        imm(0);
        cond(1);
        cursor(2);
        cat();
        wrap(SnobolMatcher.K_ARBNO);
        rpos(0);
        cat();
        runsOut("immediate writes before running out", false);
        // CAT ARBNO RPOS; then for each repetition CAT COND IMM LEN CURSOR ARBNO RPOS.
        vars("immediate writes before running out", 0, "b");
        vars("no triples when running out", 1, "");
        Check.due("cursor before running out", m.cursorVar(2), 2);
    }

    private static void deepestRuns() {
        begin("aaaaaaaaaaaaaaaa");
        arb();
        for (int i = 0; i < 14; i++) {
            arb();
            cat();
        }
        fail();
        cat();
        runsOut("many ARBs", false);
        begin("aaaaaaaaaaaaaaaa");
        lit('a');
        for (int v = 0; v < 8; v++) {
            cond(v);
        }
        for (int v = 0; v < 8; v++) {
            cond(v);
        }
        m.define(1);
        deferTo(1);
        deferTo(0);
        cat();
        empty();
        alt();
        matches("a long list", true, 0, 8);
        for (int v = 0; v < 8; v++) {
            vars("a long list", v, "a");
        }
        begin("aaaaaaaaaaaaaaaa");
        lit('a');
        for (int v = 0; v < 12; v++) {
            cond(v % 8);
        }
        wrap(SnobolMatcher.K_ARBNO);
        rpos(0);
        cat();
        matches("the longest list", true, 0, 16);
        vars("the longest list", 7, "a");
        begin("aaaaaaaaaaaaaaaa");
        lit('a');
        for (int v = 0; v < 14; v++) {
            cond(v % 8);
        }
        wrap(SnobolMatcher.K_ARBNO);
        rpos(0);
        cat();
        runsOut("too long a list", true);
        vars("too long a list", 0, "");
    }

    private static void nothingElseChanges() {
        begin("abc");
        arb();
        cond(0);
        cursor(1);
        cat();
        rpos(0);
        cat();
        m.define(0);
        empty();
        fail();
        String before = Check.state(m);
        String built = before.substring(before.indexOf("\nroots"), before.indexOf("\nvars"));
        m.match(0, true);
        String after = Check.state(m);
        Check.due("nodes, stack, patterns and subject", after.substring(after.indexOf("\nroots"), after.indexOf("\nvars")), built);
        Check.due("nodes", m.status(SnobolMatcher.S_NODES), 8);
        Check.due("stack", m.status(SnobolMatcher.S_STACK), 2);
        Check.due("subject", m.status(SnobolMatcher.S_SUBJECT), 3);
    }
}
