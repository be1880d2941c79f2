/** Promises 3 and 4: push and define. */
public final class PushTest {
    private static final int MIN = Integer.MIN_VALUE;
    private static final int MAX = Integer.MAX_VALUE;
    private static final int LEAVES = SnobolMatcher.K_DEFER;
    private static final int KINDS = SnobolMatcher.K_ALT;

    public static void main(String[] args) {
        kinds();
        rangeOfLit();
        rangeOfPlaces();
        rangeOfCharSets();
        rangeOfVariables();
        rangeOfDefer();
        otherKindsTakeAnything();
        underflow();
        poolFull();
        stackFull();
        kindComesFirst();
        argumentComesBeforeUnderflow();
        argumentComesBeforeFull();
        underflowComesBeforePoolFull();
        poolFullComesBeforeStackFull();
        numbersGrow();
        fieldsAreStored();
        leafGoesOnTop();
        unaryTakesTheTop();
        binaryTakesTwo();
        pushChangesNothingElse();
        defineRefuses();
        defineTakesTheTop();
        defineReplaces();
        defineChangesNothingElse();
        Check.finish();
    }

    /** An object with so many entries on its stack and so many nodes, of which at least as many. */
    private static SnobolMatcher with(int entries, int nodes) {
        SnobolMatcher m = Check.fresh();
        for (int i = entries; i < nodes; i++) {
            m.push(SnobolMatcher.K_FAIL, 0, 0);
            m.define(0);
        }
        for (int k = 0; k < entries; k++) {
            m.push(SnobolMatcher.K_EMPTY, 0, 0);
        }
        Check.due("entries", m.status(SnobolMatcher.S_STACK), entries);
        Check.due("nodes", m.status(SnobolMatcher.S_NODES), nodes);
        return m;
    }

    private static boolean isUnary(int kind) {
        return kind >= SnobolMatcher.K_ARBNO && kind <= SnobolMatcher.K_COND;
    }

    private static void refused(SnobolMatcher m, int kind, int a, int b, int due) {
        String before = Check.state(m);
        String call = "push(" + kind + ", " + a + ", " + b + ")";
        Check.due(call, m.push(kind, a, b), due);
        Check.due("after " + call, Check.state(m), before);
    }

    private static void taken(SnobolMatcher m, int kind, int a, int b) {
        int number = m.status(SnobolMatcher.S_NODES);
        Check.due("push(" + kind + ", " + a + ", " + b + ")", m.push(kind, a, b), number);
        Check.due("nodes", m.status(SnobolMatcher.S_NODES), number + 1);
    }

    private static void kinds() {
        Check.sentence("kind is not one of 1..18: E_KIND.");
        for (int kind : new int[] {MIN, MIN + 1, MIN + 18, -18, -2, -1, 0, 19, 20, 33, 257, 65537, MAX - 1, MAX}) {
            refused(with(2, 2), kind, 0, 0, SnobolMatcher.E_KIND);
        }
        for (int kind = 1; kind <= KINDS; kind++) {
            taken(with(2, 2), kind, 0, 0);
        }
    }

    /** Sees that a kind takes a from 0 to the greatest, whatever b is, and nothing outside. */
    private static void rangeOfA(String name, int greatest) {
        int kind = Postfix.kind(name);
        for (int b : new int[] {MIN, -1, 0, 65536, MAX}) {
            for (int a : new int[] {MIN, MIN + 1, -65536, -2, -1, greatest + 1, greatest + 2, 65536, 65537, MAX - 1, MAX}) {
                refused(with(2, 2), kind, a, b, SnobolMatcher.E_ARG);
            }
            taken(with(2, 2), kind, 0, b);
            taken(with(2, 2), kind, 1, b);
            taken(with(2, 2), kind, greatest - 1, b);
            taken(with(2, 2), kind, greatest, b);
        }
    }

    private static void rangeOfLit() {
        Check.sentence("K_LIT needs a in 0..65535");
        rangeOfA("LIT", 65535);
    }

    private static void rangeOfPlaces() {
        Check.sentence("K_LEN, K_POS, K_RPOS need a in 0..16");
        rangeOfA("LEN", 16);
        rangeOfA("POS", 16);
        rangeOfA("RPOS", 16);
    }

    private static void rangeOfCharSets() {
        Check.sentence("K_ANY, K_SPAN, K_BREAK need 0 <= a <= b <= 65535");
        int[] values = {MIN, MIN + 1, -65536, -1, 0, 1, 32767, 32768, 65534, 65535, 65536, 65537, MAX - 1, MAX};
        for (int kind = SnobolMatcher.K_ANY; kind <= SnobolMatcher.K_BREAK; kind++) {
            for (int a : values) {
                for (int b : values) {
                    if (0 <= a && a <= b && b <= 65535) {
                        taken(with(0, 0), kind, a, b);
                    } else {
                        refused(with(0, 0), kind, a, b, SnobolMatcher.E_ARG);
                    }
                }
            }
        }
    }

    private static void rangeOfVariables() {
        Check.sentence("K_CURSOR, K_IMM, K_COND need a in 0..7");
        rangeOfA("CURSOR", 7);
        rangeOfA("IMM", 7);
        rangeOfA("COND", 7);
    }

    private static void rangeOfDefer() {
        Check.sentence("K_DEFER needs a in 0..3");
        rangeOfA("DEFER", 3);
    }

    private static void otherKindsTakeAnything() {
        Check.sentence("All other kinds ignore a and b (any values are accepted).");
        int[] values = {MIN, -1, 0, 1, 65535, 65536, MAX};
        for (String name : new String[] {"EMPTY", "FAIL", "ARB", "ARBNO", "FENCE", "CAT", "ALT"}) {
            for (int a : values) {
                for (int b : values) {
                    SnobolMatcher m = with(2, 2);
                    taken(m, Postfix.kind(name), a, b);
                    Check.due(name + " A", m.nodeField(2, SnobolMatcher.F_A), 0);
                    Check.due(name + " B", m.nodeField(2, SnobolMatcher.F_B), 0);
                }
            }
        }
    }

    private static void underflow() {
        Check.sentence("A unary kind (K_ARBNO, K_FENCE, K_IMM, K_COND) with an empty stack, "
            + "or a binary kind (K_CAT, K_ALT) with fewer than 2 stack entries: E_UNDERFLOW.");
        for (int kind = LEAVES + 1; kind <= KINDS; kind++) {
            int needed = isUnary(kind) ? 1 : 2;
            for (int entries = 0; entries <= 3; entries++) {
                if (entries < needed) {
                    refused(with(entries, entries), kind, 0, 0, SnobolMatcher.E_UNDERFLOW);
                    refused(with(entries, 20), kind, 0, 0, SnobolMatcher.E_UNDERFLOW);
                } else {
                    taken(with(entries, entries), kind, 0, 0);
                }
            }
        }
        for (int kind = 1; kind <= LEAVES; kind++) {
            taken(with(0, 0), kind, 0, 0);
        }
    }

    private static void poolFull() {
        Check.sentence("The pool holds 32 nodes: E_POOL_FULL.");
        for (int kind = 1; kind <= KINDS; kind++) {
            SnobolMatcher m = with(2, 31);
            taken(m, kind, 0, 0);
            m = with(2, 32);
            refused(m, kind, 0, 0, SnobolMatcher.E_POOL_FULL);
            refused(m, kind, 0, 0, SnobolMatcher.E_POOL_FULL);
        }
    }

    private static void stackFull() {
        Check.sentence("A leaf kind (every kind that is neither unary nor binary) and the stack holds 16 entries: E_STACK_FULL.");
        for (int kind = 1; kind <= KINDS; kind++) {
            taken(with(15, 15), kind, 0, 0);
            if (kind <= LEAVES) {
                refused(with(16, 16), kind, 0, 0, SnobolMatcher.E_STACK_FULL);
                refused(with(16, 31), kind, 0, 0, SnobolMatcher.E_STACK_FULL);
            } else {
                taken(with(16, 16), kind, 0, 0);
                taken(with(16, 31), kind, 0, 0);
            }
        }
        // A binary kind makes room for one leaf more.
        SnobolMatcher m = with(16, 16);
        taken(m, SnobolMatcher.K_FENCE, 0, 0);
        refused(m, SnobolMatcher.K_EMPTY, 0, 0, SnobolMatcher.E_STACK_FULL);
        taken(m, SnobolMatcher.K_CAT, 0, 0);
        taken(m, SnobolMatcher.K_EMPTY, 0, 0);
        refused(m, SnobolMatcher.K_EMPTY, 0, 0, SnobolMatcher.E_STACK_FULL);
    }

    private static final String ORDER =
        "The tests are made in this order; the first that applies gives the answer and nothing changes";

    private static void kindComesFirst() {
        Check.sentence(ORDER);
        for (int kind : new int[] {MIN, 0, 19, MAX}) {
            refused(with(0, 0), kind, -1, 65536, SnobolMatcher.E_KIND);
            refused(with(0, 32), kind, -1, 65536, SnobolMatcher.E_KIND);
            refused(with(16, 16), kind, -1, 65536, SnobolMatcher.E_KIND);
            refused(with(16, 32), kind, -1, 65536, SnobolMatcher.E_KIND);
        }
    }

    private static void argumentComesBeforeUnderflow() {
        Check.sentence(ORDER);
        for (String name : new String[] {"IMM", "COND"}) {
            refused(with(0, 0), Postfix.kind(name), -1, 0, SnobolMatcher.E_ARG);
            refused(with(0, 32), Postfix.kind(name), 8, 0, SnobolMatcher.E_ARG);
        }
    }

    private static void argumentComesBeforeFull() {
        Check.sentence(ORDER);
        for (int kind = 1; kind <= KINDS; kind++) {
            boolean tested = new SnobolMatcher(1, 16, 0).push(kind, -1, 0) == SnobolMatcher.E_ARG;
            refused(with(2, 32), kind, -1, 0, tested ? SnobolMatcher.E_ARG : SnobolMatcher.E_POOL_FULL);
            refused(with(16, 32), kind, -1, 0, tested ? SnobolMatcher.E_ARG : SnobolMatcher.E_POOL_FULL);
            if (kind <= LEAVES) {
                refused(with(16, 16), kind, -1, 0, tested ? SnobolMatcher.E_ARG : SnobolMatcher.E_STACK_FULL);
            }
        }
    }

    private static void underflowComesBeforePoolFull() {
        Check.sentence(ORDER);
        for (int kind = LEAVES + 1; kind <= KINDS; kind++) {
            refused(with(0, 32), kind, 0, 0, SnobolMatcher.E_UNDERFLOW);
            refused(with(1, 32), kind, 0, 0, isUnary(kind) ? SnobolMatcher.E_POOL_FULL : SnobolMatcher.E_UNDERFLOW);
            refused(with(2, 32), kind, 0, 0, SnobolMatcher.E_POOL_FULL);
        }
    }

    private static void poolFullComesBeforeStackFull() {
        Check.sentence(ORDER);
        for (int kind = 1; kind <= KINDS; kind++) {
            refused(with(16, 32), kind, 0, 0, SnobolMatcher.E_POOL_FULL);
        }
    }

    private static void numbersGrow() {
        Check.sentence("a node is created whose number equals the node count before the call; the node count grows by 1");
        SnobolMatcher m = Check.fresh();
        for (int number = 0; number < 32; number++) {
            int kind = number < 16 ? SnobolMatcher.K_EMPTY : number < 31 ? SnobolMatcher.K_ALT : SnobolMatcher.K_ARBNO;
            Check.due("nodes", m.status(SnobolMatcher.S_NODES), number);
            Check.due("node number", m.push(kind, 0, 0), number);
            Check.due("nodes", m.status(SnobolMatcher.S_NODES), number + 1);
            Check.due("kind", m.nodeField(number, SnobolMatcher.F_KIND), kind);
        }
    }

    private static void fieldsAreStored() {
        Check.sentence("Its KIND is kind. Its A is a for the kinds whose a is tested in step 2, else 0. "
            + "Its B is b for K_ANY, K_SPAN, K_BREAK, else 0.");
        int[] greatest = {0, 65535, 0, 0, 16, 16, 16, 65535, 65535, 65535, 0, 7, 3, 0, 0, 7, 7, 0, 0};
        for (int kind = 1; kind <= KINDS; kind++) {
            boolean isRange = kind >= SnobolMatcher.K_ANY && kind <= SnobolMatcher.K_BREAK;
            for (int a : new int[] {0, 1, 2, 3, 7, 16, 32768, 65534, 65535}) {
                if (a <= greatest[kind]) {
                    SnobolMatcher m = with(2, 2);
                    m.push(kind, a, 65535);
                    Check.due("kind", m.nodeField(2, SnobolMatcher.F_KIND), kind);
                    Check.due("A of " + kind, m.nodeField(2, SnobolMatcher.F_A), a);
                    Check.due("B of " + kind, m.nodeField(2, SnobolMatcher.F_B), isRange ? 65535 : 0);
                }
            }
            SnobolMatcher m = with(2, 2);
            m.push(kind, greatest[kind] == 0 ? 5 : 0, 0);
            Check.due("A of " + kind, m.nodeField(2, SnobolMatcher.F_A), 0);
            Check.due("B of " + kind, m.nodeField(2, SnobolMatcher.F_B), 0);
        }
    }

    private static void children(SnobolMatcher m, int node, int left, int right) {
        Check.due("LEFT of " + node, m.nodeField(node, SnobolMatcher.F_LEFT), left);
        Check.due("RIGHT of " + node, m.nodeField(node, SnobolMatcher.F_RIGHT), right);
    }

    private static void stack(SnobolMatcher m, int... entries) {
        Check.due("depth", m.status(SnobolMatcher.S_STACK), entries.length);
        for (int k = 0; k < entries.length; k++) {
            Check.due("entry " + k, m.stackEntry(k), entries[k]);
        }
        Check.due("no entry above", m.stackEntry(entries.length), -1);
    }

    private static void leafGoesOnTop() {
        Check.sentence("Leaf: LEFT = RIGHT = -1; the node is pushed on the stack (depth grows by 1).");
        for (int kind = 1; kind <= LEAVES; kind++) {
            SnobolMatcher m = Check.fresh();
            m.push(kind, 0, 0);
            stack(m, 0);
            m.push(kind, 0, 0);
            stack(m, 0, 1);
            children(m, 0, -1, -1);
            children(m, 1, -1, -1);
        }
    }

    private static void unaryTakesTheTop() {
        Check.sentence("Unary: the top entry is popped into LEFT, RIGHT = -1, and the node is pushed (depth unchanged).");
        for (int kind = LEAVES + 1; isUnary(kind); kind++) {
            SnobolMatcher m = with(1, 1);
            m.push(kind, 0, 0);
            stack(m, 1);
            children(m, 1, 0, -1);
            m = with(3, 3);
            m.push(kind, 0, 0);
            stack(m, 0, 1, 3);
            children(m, 3, 2, -1);
            m = with(16, 16);
            m.push(kind, 0, 0);
            stack(m, 0, 1, 2, 3, 4, 5, 6, 7, 8, 9, 10, 11, 12, 13, 14, 16);
            children(m, 16, 15, -1);
        }
    }

    private static void binaryTakesTwo() {
        Check.sentence("Binary: the top entry is popped into RIGHT, then the next top entry is popped into LEFT, "
            + "and the node is pushed (depth shrinks by 1).");
        for (int kind = SnobolMatcher.K_CAT; kind <= KINDS; kind++) {
            SnobolMatcher m = with(2, 2);
            m.push(kind, 0, 0);
            stack(m, 2);
            children(m, 2, 0, 1);
            m = with(4, 5);
            m.push(kind, 0, 0);
            stack(m, 1, 2, 5);
            children(m, 5, 3, 4);
            m = with(16, 16);
            m.push(kind, 0, 0);
            stack(m, 0, 1, 2, 3, 4, 5, 6, 7, 8, 9, 10, 11, 12, 13, 16);
            children(m, 16, 14, 15);
        }
    }

    private static void pushChangesNothingElse() {
        Check.sentence("Earlier nodes, pattern variables, the subject, all string and cursor variables, "
            + "and the last result, start and end do not change.");
        for (int kind = 1; kind <= KINDS; kind++) {
            SnobolMatcher m = Check.used();
            SnobolMatcher twin = Check.used();
            m.push(kind, 0, 0);
            Check.due("roots", Check.roots(m), Check.roots(twin));
            Check.due("subject", Check.subject(m), Check.subject(twin));
            Check.due("variables", Check.vars(m), Check.vars(twin));
            Check.due("results", Check.results(m), Check.results(twin));
            for (int cell = 0; cell < 7 * 5; cell++) {
                Check.due("earlier node", m.nodeField(cell / 5, cell % 5), twin.nodeField(cell / 5, cell % 5));
            }
        }
    }

    private static void defineRefuses() {
        Check.sentence("v not in 0..3: E_ARG; stack empty: E_UNDERFLOW.");
        SnobolMatcher empty = Check.fresh();
        SnobolMatcher one = with(1, 1);
        for (int v : new int[] {MIN, MIN + 1, -4, -1, 4, 5, 256, 65536, MAX}) {
            Check.due("define(" + v + ") on an empty stack", empty.define(v), SnobolMatcher.E_ARG);
            Check.due("define(" + v + ")", one.define(v), SnobolMatcher.E_ARG);
        }
        stack(one, 0);
        for (int v = 0; v < 4; v++) {
            Check.due("define(" + v + ") on an empty stack", empty.define(v), SnobolMatcher.E_UNDERFLOW);
        }
        Check.due("state", Check.state(empty), Check.state(Check.fresh()));
        Check.due("define with an entry", one.define(3), 0);
        Check.due("define with none left", one.define(3), SnobolMatcher.E_UNDERFLOW);
        Check.due("the name stays", one.patternRoot(3), 0);
    }

    private static void defineTakesTheTop() {
        Check.sentence("Otherwise the top entry is popped and becomes the root of pattern variable v");
        SnobolMatcher m = with(16, 16);
        for (int k = 15; k >= 0; k--) {
            Check.due("define", m.define(k % 4), k);
            Check.due("patternRoot", m.patternRoot(k % 4), k);
            Check.due("depth", m.status(SnobolMatcher.S_STACK), k);
            Check.due("entry " + k, m.stackEntry(k), -1);
        }
    }

    private static void defineReplaces() {
        Check.sentence("replacing any earlier root");
        Case c = Case.of("ab", "LIT:a").pattern(1, "DEFER:0").matches(1);
        c.pattern(0, "LEN:2").matches(2);
        Check.due("patternRoot(0)", c.m.patternRoot(0), 2);
        Check.due("a deferral meets the new root", c.m.match(1, true), SnobolMatcher.R_MATCHED);
        Check.due("its end", c.m.status(SnobolMatcher.S_END), 2);
    }

    private static void defineChangesNothingElse() {
        Check.sentence("Nodes, the remaining stack entries, the other pattern variables, the subject, "
            + "all string and cursor variables, and the last result, start and end do not change.");
        for (int v = 0; v < 4; v++) {
            SnobolMatcher m = Check.used();
            SnobolMatcher twin = Check.used();
            Check.due("define(" + v + ")", m.define(v), 6);
            Check.due("nodes", Check.nodes(m), Check.nodes(twin));
            stack(m, 5);
            for (int w = 0; w < 4; w++) {
                Check.due("patternRoot(" + w + ")", m.patternRoot(w), w == v ? 6 : twin.patternRoot(w));
            }
            Check.due("subject", Check.subject(m), Check.subject(twin));
            Check.due("variables", Check.vars(m), Check.vars(twin));
            Check.due("results", Check.results(m), Check.results(twin));
        }
    }
}
