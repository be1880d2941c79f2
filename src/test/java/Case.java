/** A matcher with a subject and patterns, and what its next matches must do. */
final class Case {
    static final String FULL = "0123456789abcdef";

    final SnobolMatcher m;
    private String told;

    Case(String subject, int stepLimit, int deferLimit) {
        m = new SnobolMatcher(16, stepLimit, deferLimit);
        Check.subject(m, subject);
        told = "\"" + subject + "\"";
    }

    /** A case whose pattern variable 0 is given in postfix words. */
    static Case of(String subject, String words) {
        return new Case(subject, 250, 8).pattern(0, words);
    }

    Case pattern(int v, String words) {
        Postfix.define(m, v, words);
        told += ", " + v + " = " + words;
        return this;
    }

    Case subject(String text) {
        Check.subject(m, text);
        told += ", \"" + text + "\"";
        return this;
    }

    /** The anchored match must end so. */
    Case matches(int end) {
        return ends(true, SnobolMatcher.R_MATCHED, 0, end);
    }

    Case fails() {
        return ends(true, SnobolMatcher.R_FAILED, -1, -1);
    }

    Case runsOut() {
        return ends(true, SnobolMatcher.R_OUT_OF_STEPS, -1, -1);
    }

    /** The unanchored match must end so. */
    Case finds(int start, int end) {
        return ends(false, SnobolMatcher.R_MATCHED, start, end);
    }

    Case findsNone() {
        return ends(false, SnobolMatcher.R_FAILED, -1, -1);
    }

    Case runsOutSearching() {
        return ends(false, SnobolMatcher.R_OUT_OF_STEPS, -1, -1);
    }

    private Case ends(boolean anchored, int result, int start, int end) {
        told += anchored ? ", anchored" : ", unanchored";
        Check.due(told, m.match(0, anchored), result);
        Check.due(told + ": result", m.status(SnobolMatcher.S_RESULT), result);
        Check.due(told + ": start", m.status(SnobolMatcher.S_START), start);
        Check.due(told + ": end", m.status(SnobolMatcher.S_END), end);
        return this;
    }

    Case text(int v, String text) {
        Check.due(told + ": string variable " + v, Check.var(m, v), text);
        return this;
    }

    Case cursor(int v, int value) {
        Check.due(told + ": cursor variable " + v, m.cursorVar(v), value);
        return this;
    }

    /**
     * Sees that the element begun at a cursor has these outcomes, in this order, and no others.
     * A POS after the element picks an outcome; of two POS, the one that comes first.
     */
    static void outcomes(String subject, int at, String words, int... ends) {
        for (int end = 0; end <= subject.length(); end++) {
            Case one = Case.of(subject, "LEN:" + at + " " + words + " CAT POS:" + end + " CAT");
            if (place(ends, end) < 0) {
                one.fails();
            } else {
                one.matches(end);
            }
            for (int other = 0; other < end; other++) {
                if (place(ends, end) >= 0 && place(ends, other) >= 0) {
                    int first = place(ends, end) < place(ends, other) ? end : other;
                    Case.of(subject, "LEN:" + at + " " + words + " CAT POS:" + end + " POS:" + other
                        + " ALT CAT").matches(first);
                }
            }
        }
    }

    /** Sees that the anchored match fails after exactly so many steps; fences around it bring them to the least limit. */
    static void takes(int steps, String subject, String words) {
        int fences = steps < 17 ? 17 - steps : 0;
        String fenced = words + Postfix.times(fences, "FENCE");
        new Case(subject, steps + fences, 8).pattern(0, fenced).fails();
        new Case(subject, steps + fences - 1, 8).pattern(0, fenced).runsOut();
    }

    private static int place(int[] ends, int end) {
        for (int i = 0; i < ends.length; i++) {
            if (ends[i] == end) {
                return i;
            }
        }
        return -1;
    }
}
