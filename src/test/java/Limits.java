/** Finds out an object's three limits, which no observer tells. Each call clears the object. */
final class Limits {
    private Limits() {}

    /** The most chars that the subject takes. */
    static int subject(SnobolMatcher m) {
        m.clearAll();
        int length = 0;
        for (int i = 0; i < 20 && m.addSubjectChar('x') > 0; i++) {
            length++;
        }
        return length;
    }

    /** The deferral limit, told by how many chars a pattern that defers to itself takes; needs room for 9. */
    static int deferrals(SnobolMatcher m) {
        m.clearAll();
        Check.subject(m, "aaaaaaaaa");
        Postfix.define(m, 0, "LIT:a DEFER:0 CAT EMPTY ALT");
        Check.due("match of a pattern that defers to itself", m.match(0, true), SnobolMatcher.R_MATCHED);
        return m.status(SnobolMatcher.S_END);
    }

    /** Sees that a match of so many steps ends, and that one of a step more runs out; needs room for 16. */
    static void steps(String what, SnobolMatcher m, int limit) {
        Check.due(what + ": " + limit + " steps", resultAfter(m, limit), SnobolMatcher.R_FAILED);
        Check.due(what + ": " + (limit + 1) + " steps", resultAfter(m, limit + 1), SnobolMatcher.R_OUT_OF_STEPS);
    }

    /** The steps that ARB ARB FAIL takes to fail with so many chars right of the cursor. */
    private static int twoArbs(int right) {
        return 2 + 2 * (right + 1) + (right + 1) * (right + 2) / 2;
    }

    /** The result of an anchored match that takes exactly so many steps, 15 to 281, to fail. */
    private static int resultAfter(SnobolMatcher m, int steps) {
        for (int n = 0; n <= 16; n++) {
            for (int right = 0; right <= n; right++) {
                int fences = steps - 3 - twoArbs(n) - twoArbs(right);
                if (fences >= 0 && fences <= 18) {
                    return failingMatch(m, n, right, fences);
                }
            }
        }
        throw new IllegalArgumentException("no pattern takes " + steps + " steps");
    }

    private static int failingMatch(SnobolMatcher m, int n, int right, int fences) {
        String twoArbs = "ARB ARB FAIL CAT CAT";
        m.clearAll();
        Check.subject(m, "x".repeat(n));
        Postfix.define(m, 0, "LEN:" + (n - right) + " " + twoArbs + " CAT " + twoArbs + " ALT"
            + Postfix.times(fences, "FENCE"));
        return m.match(0, true);
    }
}
