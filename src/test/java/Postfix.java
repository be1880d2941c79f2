/** Builds patterns from words in postfix order, such as "LIT:a ARB CAT ANY:az ALT IMM:0". */
final class Postfix {
    private static final String[] KINDS = {"", "LIT", "EMPTY", "FAIL", "LEN", "POS", "RPOS", "ANY", "SPAN",
        "BREAK", "ARB", "CURSOR", "DEFER", "ARBNO", "FENCE", "IMM", "COND", "CAT", "ALT"};

    private Postfix() {}

    static int kind(String name) {
        for (int kind = 1; kind < KINDS.length; kind++) {
            if (KINDS[kind].equals(name)) {
                return kind;
            }
        }
        throw new IllegalArgumentException(name);
    }

    static String name(int kind) {
        return KINDS[kind];
    }

    /** The same words, so many times, each after a blank. */
    static String times(int count, String words) {
        return (" " + words).repeat(count);
    }

    /** Pushes every word; each must be taken. */
    static void push(SnobolMatcher m, String words) {
        for (String word : words.trim().split(" +")) {
            int number = m.status(SnobolMatcher.S_NODES);
            Check.due("push " + word, pushWord(m, word), number);
        }
    }

    static void define(SnobolMatcher m, int v, String words) {
        push(m, words);
        int top = m.status(SnobolMatcher.S_NODES) - 1;
        Check.due("define(" + v + ") of " + words, m.define(v), top);
    }

    private static int pushWord(SnobolMatcher m, String word) {
        int colon = word.indexOf(':');
        int kind = kind(colon < 0 ? word : word.substring(0, colon));
        String argument = colon < 0 ? "" : word.substring(colon + 1);
        if (argument.isEmpty()) {
            return m.push(kind, 0, 0);
        }
        if (kind == SnobolMatcher.K_LIT) {
            return m.push(kind, argument.charAt(0), 0);
        }
        if (kind >= SnobolMatcher.K_ANY && kind <= SnobolMatcher.K_BREAK) {
            return m.push(kind, argument.charAt(0), argument.charAt(1));
        }
        return m.push(kind, Integer.parseInt(argument), 0);
    }
}
