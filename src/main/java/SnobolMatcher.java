/** Matches strings against patterns in the manner of SNOBOL4; the promises are in DOC.md. */
public final class SnobolMatcher {
    public static final int POOL = 32;
    public static final int STACK = 16;
    public static final int K_LIT = 1, K_EMPTY = 2, K_FAIL = 3, K_LEN = 4, K_POS = 5,
        K_RPOS = 6, K_ANY = 7, K_SPAN = 8, K_BREAK = 9, K_ARB = 10, K_CURSOR = 11,
        K_DEFER = 12, K_ARBNO = 13, K_FENCE = 14, K_IMM = 15, K_COND = 16, K_CAT = 17,
        K_ALT = 18;
    public static final int R_FAILED = 0, R_MATCHED = 1, R_OUT_OF_STEPS = 2, R_NONE = 3;
    public static final int E_KIND = -1, E_ARG = -2, E_UNDERFLOW = -3, E_POOL_FULL = -4,
        E_STACK_FULL = -5, E_UNDEFINED = -6, E_SUBJECT_FULL = -7;
    public static final int F_KIND = 0, F_A = 1, F_B = 2, F_LEFT = 3, F_RIGHT = 4;
    public static final int S_RESULT = 0, S_START = 1, S_END = 2, S_NODES = 3,
        S_STACK = 4, S_SUBJECT = 5;

    private static final int NONE = -1;
    private static final int FIELDS = 5;
    private static final int NODE_CELLS = 160;
    private static final int PATTERNS = 4;
    private static final int VARS = 8;
    private static final int TEXT = 16;
    private static final int TEXT_CELLS = 128;
    private static final int LAST_CHAR = 65535;

    private static final int LEAST_STEPS = 16;
    private static final int MOST_STEPS = 250;
    private static final int MOST_DEFERS = 8;

    // What the search does on its next turn.
    private static final int BEGIN = 0;
    private static final int PRODUCE = 1;
    private static final int BACKTRACK = 2;

    // Far above what a start can need. It begins at most 250 elements and goes back at most 17 times
    // to each. An outcome is followed by a begun element, skipped by an ARBNO or the root's, so there
    // are some 500 of them, and each passes at most 250 elements on its way.
    private static final int MOST_TURNS = 1000000;

    private final int maxSubject;
    private final int stepLimit;
    private final int deferLimit;

    private final int[] nodes = new int[NODE_CELLS];
    private int nodeCount;
    private final int[] stack = new int[STACK];
    private int stackDepth;
    private final int[] roots = new int[PATTERNS];
    private final char[] subject = new char[TEXT];
    private int subjectLength;
    private final char[] texts = new char[TEXT_CELLS];
    private final int[] textLengths = new int[VARS];
    private final int[] cursors = new int[VARS];
    private int lastResult;
    private int lastStart;
    private int lastEnd;

    // A begun element is numbered by the step that began it, so the step limit bounds these arrays
    // and a backtracking search never reuses a number that an outcome still stands on.
    private final int[] elementNode = new int[MOST_STEPS];
    private final int[] elementCursor = new int[MOST_STEPS];
    private final int[] elementDepth = new int[MOST_STEPS];
    // The begun element that takes this one's outcomes; NONE: they are outcomes of the root.
    private final int[] elementTaker = new int[MOST_STEPS];
    // The newest choice and the length of the list as they were when the element was begun.
    private final int[] elementChoice = new int[MOST_STEPS];
    private final int[] elementTriples = new int[MOST_STEPS];
    private int steps;

    // The newest begun element that can still be asked for more; older ones hang on elementChoice.
    private int newestChoice;

    // A triple (v, x, y) is kept as its K_COND element, which knows v and x, and y.
    private final int[] tripleElement = new int[MOST_STEPS];
    private final int[] tripleEnd = new int[MOST_STEPS];
    private int tripleCount;

    private int turn;
    private int turnNode;
    private int turnCursor;
    private int turnDepth;
    private int turnTaker;
    private int searchResult;

    public SnobolMatcher(int maxSubject, int stepLimit, int deferLimit) {
        this.maxSubject = clamp(maxSubject, 1, TEXT);
        this.stepLimit = clamp(stepLimit, LEAST_STEPS, MOST_STEPS);
        this.deferLimit = clamp(deferLimit, 0, MOST_DEFERS);
        setInitialState();
    }

    public void clearAll() {
        setInitialState();
    }

    public int push(int kind, int a, int b) {
        if (kind < K_LIT || kind > K_ALT) {
            return E_KIND;
        }
        if (!argumentsFit(kind, a, b)) {
            return E_ARG;
        }
        int children = childCount(kind);
        if (stackDepth < children) {
            return E_UNDERFLOW;
        }
        if (nodeCount >= POOL) {
            return E_POOL_FULL;
        }
        if (children == 0 && stackDepth >= STACK) {
            return E_STACK_FULL;
        }
        int right = children == 2 ? popEntry() : NONE;
        int left = children >= 1 ? popEntry() : NONE;
        int node = nodeCount;
        int cell = node * FIELDS;
        nodes[cell + F_KIND] = kind;
        nodes[cell + F_A] = greatestA(kind) == NONE ? 0 : a;
        nodes[cell + F_B] = hasRange(kind) ? b : 0;
        nodes[cell + F_LEFT] = left;
        nodes[cell + F_RIGHT] = right;
        nodeCount++;
        stack[stackDepth] = node;
        stackDepth++;
        return node;
    }

    public int define(int v) {
        if (v < 0 || v >= PATTERNS) {
            return E_ARG;
        }
        if (stackDepth == 0) {
            return E_UNDERFLOW;
        }
        roots[v] = popEntry();
        return roots[v];
    }

    public int addSubjectChar(int c) {
        if (c < 0 || c > LAST_CHAR) {
            return E_ARG;
        }
        if (subjectLength >= maxSubject) {
            return E_SUBJECT_FULL;
        }
        subject[subjectLength] = (char) c;
        subjectLength++;
        return subjectLength;
    }

    public void clearSubject() {
        subjectLength = 0;
    }

    public void clearVars() {
        emptyVars();
    }

    public int match(int v, boolean anchored) {
        if (v < 0 || v >= PATTERNS) {
            return E_ARG;
        }
        if (roots[v] == NONE) {
            return E_UNDEFINED;
        }
        int greatestStart = anchored ? 0 : subjectLength;
        lastResult = R_FAILED;
        lastStart = -1;
        lastEnd = -1;
        for (int start = 0; start <= greatestStart && lastResult == R_FAILED; start++) {
            lastResult = searchFrom(roots[v], start);
            if (lastResult == R_MATCHED) {
                lastStart = start;
                lastEnd = turnCursor;
                applyTriples();
            }
        }
        return lastResult;
    }

    public int status(int item) {
        switch (item) {
            case S_RESULT:
                return lastResult;
            case S_START:
                return lastStart;
            case S_END:
                return lastEnd;
            case S_NODES:
                return nodeCount;
            case S_STACK:
                return stackDepth;
            case S_SUBJECT:
                return subjectLength;
            default:
                return -1;
        }
    }

    public int varLength(int v) {
        if (v < 0 || v >= VARS) {
            return -1;
        }
        return textLengths[v];
    }

    public char varChar(int v, int i) {
        if (v < 0 || v >= VARS || i < 0 || i >= textLengths[v]) {
            return 0;
        }
        return texts[v * TEXT + i];
    }

    public int cursorVar(int v) {
        if (v < 0 || v >= VARS) {
            return -1;
        }
        return cursors[v];
    }

    public int patternRoot(int v) {
        if (v < 0 || v >= PATTERNS) {
            return -1;
        }
        return roots[v];
    }

    public int nodeField(int i, int f) {
        if (i < 0 || i >= nodeCount || f < 0 || f >= FIELDS) {
            return -1;
        }
        return nodes[i * FIELDS + f];
    }

    public int stackEntry(int k) {
        if (k < 0 || k >= stackDepth) {
            return -1;
        }
        return stack[k];
    }

    public char subjectChar(int i) {
        if (i < 0 || i >= subjectLength) {
            return 0;
        }
        return subject[i];
    }

    private static int clamp(int value, int least, int greatest) {
        if (value < least) {
            return least;
        }
        return value > greatest ? greatest : value;
    }

    private void setInitialState() {
        nodeCount = 0;
        stackDepth = 0;
        for (int v = 0; v < PATTERNS; v++) {
            roots[v] = NONE;
        }
        subjectLength = 0;
        emptyVars();
        lastResult = R_NONE;
        lastStart = -1;
        lastEnd = -1;
    }

    private void emptyVars() {
        for (int v = 0; v < VARS; v++) {
            textLengths[v] = 0;
            cursors[v] = -1;
        }
    }

    private static boolean hasRange(int kind) {
        return kind == K_ANY || kind == K_SPAN || kind == K_BREAK;
    }

    private static int childCount(int kind) {
        if (kind < K_ARBNO) {
            return 0;
        }
        return kind < K_CAT ? 1 : 2;
    }

    /** The greatest a that a kind takes; NONE if it ignores a. */
    private static int greatestA(int kind) {
        switch (kind) {
            case K_LIT:
            case K_ANY:
            case K_SPAN:
            case K_BREAK:
                return LAST_CHAR;
            case K_LEN:
            case K_POS:
            case K_RPOS:
                return TEXT;
            case K_CURSOR:
            case K_IMM:
            case K_COND:
                return VARS - 1;
            case K_DEFER:
                return PATTERNS - 1;
            default:
                return NONE;
        }
    }

    private static boolean argumentsFit(int kind, int a, int b) {
        int greatest = greatestA(kind);
        if (greatest == NONE) {
            return true;
        }
        if (a < 0 || a > greatest) {
            return false;
        }
        return !hasRange(kind) || (a <= b && b <= LAST_CHAR);
    }

    /** Takes the top entry; the caller has seen that there is one. */
    private int popEntry() {
        stackDepth--;
        return stack[stackDepth];
    }

    /** Runs one start to its end; on R_MATCHED the end cursor is left in turnCursor. */
    private int searchFrom(int root, int start) {
        steps = 0;
        newestChoice = NONE;
        tripleCount = 0;
        searchResult = R_NONE;
        planBegin(root, start, 0, NONE);
        for (int i = 0; i < MOST_TURNS && searchResult == R_NONE; i++) {
            if (turn == BEGIN) {
                begin();
            } else if (turn == PRODUCE) {
                produce();
            } else {
                backtrack();
            }
        }
        return searchResult;
    }

    private void planBegin(int node, int cursor, int depth, int taker) {
        turn = BEGIN;
        turnNode = node;
        turnCursor = cursor;
        turnDepth = depth;
        turnTaker = taker;
    }

    private void planProduce(int cursor, int taker) {
        turn = PRODUCE;
        turnCursor = cursor;
        turnTaker = taker;
    }

    private void begin() {
        if (steps >= stepLimit) {
            searchResult = R_OUT_OF_STEPS;
            return;
        }
        int element = steps;
        steps++;
        elementNode[element] = turnNode;
        elementCursor[element] = turnCursor;
        elementDepth[element] = turnDepth;
        elementTaker[element] = turnTaker;
        elementChoice[element] = newestChoice;
        elementTriples[element] = tripleCount;
        int left = nodes[turnNode * FIELDS + F_LEFT];
        switch (nodes[turnNode * FIELDS + F_KIND]) {
            case K_ARB:
            case K_ARBNO:
                newestChoice = element;
                planProduce(turnCursor, turnTaker);
                break;
            case K_ALT:
                newestChoice = element;
                planBegin(left, turnCursor, turnDepth, turnTaker);
                break;
            case K_FENCE:
            case K_IMM:
            case K_COND:
            case K_CAT:
                planBegin(left, turnCursor, turnDepth, element);
                break;
            case K_DEFER:
                beginDeferred();
                break;
            default:
                beginLeaf();
                break;
        }
    }

    private void beginDeferred() {
        int root = roots[nodes[turnNode * FIELDS + F_A]];
        if (turnDepth >= deferLimit || root == NONE) {
            turn = BACKTRACK;
        } else {
            planBegin(root, turnCursor, turnDepth + 1, turnTaker);
        }
    }

    private void beginLeaf() {
        int cell = turnNode * FIELDS;
        int kind = nodes[cell + F_KIND];
        int a = nodes[cell + F_A];
        int end = leafEnd(kind, a, nodes[cell + F_B], turnCursor);
        if (end == NONE) {
            turn = BACKTRACK;
            return;
        }
        if (kind == K_CURSOR) {
            cursors[a] = end;
        }
        planProduce(end, turnTaker);
    }

    /** The only outcome of a leaf that has at most one; NONE if it has none. */
    private int leafEnd(int kind, int a, int b, int cursor) {
        switch (kind) {
            case K_EMPTY:
            case K_CURSOR:
                return cursor;
            case K_LEN:
                return cursor + a <= subjectLength ? cursor + a : NONE;
            case K_POS:
                return cursor == a ? cursor : NONE;
            case K_RPOS:
                return cursor == subjectLength - a ? cursor : NONE;
            case K_LIT:
                return charWithin(cursor, a, a) ? cursor + 1 : NONE;
            case K_ANY:
                return charWithin(cursor, a, b) ? cursor + 1 : NONE;
            case K_SPAN:
                return spanEnd(a, b, cursor);
            case K_BREAK:
                return breakEnd(a, b, cursor);
            default:
                return NONE;
        }
    }

    private boolean charWithin(int cursor, int least, int greatest) {
        return cursor < subjectLength && subject[cursor] >= least && subject[cursor] <= greatest;
    }

    private int spanEnd(int a, int b, int cursor) {
        int end = cursor;
        while (end < subjectLength && subject[end] >= a && subject[end] <= b) {
            end++;
        }
        return end > cursor ? end : NONE;
    }

    private int breakEnd(int a, int b, int cursor) {
        for (int i = cursor; i < subjectLength; i++) {
            if (subject[i] >= a && subject[i] <= b) {
                return i;
            }
        }
        return NONE;
    }

    /** Hands the outcome at turnCursor to the element that takes it. */
    private void produce() {
        if (turnTaker == NONE) {
            searchResult = R_MATCHED;
            return;
        }
        int element = turnTaker;
        int node = elementNode[element];
        int from = elementCursor[element];
        turnTaker = elementTaker[element];
        switch (nodes[node * FIELDS + F_KIND]) {
            case K_CAT:
                planBegin(nodes[node * FIELDS + F_RIGHT], turnCursor, elementDepth[element], turnTaker);
                break;
            case K_ARBNO:
                if (turnCursor == from) {
                    turn = BACKTRACK;
                } else {
                    planBegin(node, turnCursor, elementDepth[element], turnTaker);
                }
                break;
            case K_FENCE:
                // Every choice made since the fence was begun lies inside it.
                newestChoice = elementChoice[element];
                break;
            case K_IMM:
                setText(nodes[node * FIELDS + F_A], from, turnCursor);
                break;
            default:
                addTriple(element, turnCursor);
                break;
        }
    }

    /** Asks the newest element that may have more; what was begun after it is exhausted. */
    private void backtrack() {
        if (newestChoice == NONE) {
            searchResult = R_FAILED;
            return;
        }
        int element = newestChoice;
        int cell = elementNode[element] * FIELDS;
        int from = elementCursor[element];
        newestChoice = elementChoice[element];
        tripleCount = elementTriples[element];
        switch (nodes[cell + F_KIND]) {
            case K_ALT:
                planBegin(nodes[cell + F_RIGHT], from, elementDepth[element], elementTaker[element]);
                break;
            case K_ARBNO:
                planBegin(nodes[cell + F_LEFT], from, elementDepth[element], element);
                break;
            default:
                lengthenArb(element);
                break;
        }
    }

    private void lengthenArb(int element) {
        if (elementCursor[element] >= subjectLength) {
            turn = BACKTRACK;
            return;
        }
        // Nothing else asks where an ARB was begun, so its cursor can tell its last outcome.
        elementCursor[element]++;
        newestChoice = element;
        planProduce(elementCursor[element], elementTaker[element]);
    }

    private void setText(int v, int from, int to) {
        for (int i = from; i < to; i++) {
            texts[v * TEXT + i - from] = subject[i];
        }
        textLengths[v] = to - from;
    }

    private void addTriple(int element, int end) {
        // Always true: a K_COND element has at most one triple in the list.
        if (tripleCount < MOST_STEPS) {
            tripleElement[tripleCount] = element;
            tripleEnd[tripleCount] = end;
            tripleCount++;
        }
    }

    private void applyTriples() {
        for (int i = 0; i < tripleCount; i++) {
            int element = tripleElement[i];
            int v = nodes[elementNode[element] * FIELDS + F_A];
            setText(v, elementCursor[element], tripleEnd[i]);
        }
    }
}
