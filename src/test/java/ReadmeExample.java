public final class ReadmeExample {
    public static void main(String[] args) {
        SnobolMatcher m = new SnobolMatcher(16, 250, 8);

        // '=' and then digits, which string variable 0 gets once the whole pattern has matched.
        m.push(SnobolMatcher.K_LIT, '=', 0);
        m.push(SnobolMatcher.K_SPAN, '0', '9');
        m.push(SnobolMatcher.K_COND, 0, 0);
        m.push(SnobolMatcher.K_CAT, 0, 0);
        m.define(0);

        // Brackets that close: '(', pattern 1 once more and ')', or else nothing.
        m.push(SnobolMatcher.K_LIT, '(', 0);
        m.push(SnobolMatcher.K_DEFER, 1, 0);
        m.push(SnobolMatcher.K_CAT, 0, 0);
        m.push(SnobolMatcher.K_LIT, ')', 0);
        m.push(SnobolMatcher.K_CAT, 0, 0);
        m.push(SnobolMatcher.K_EMPTY, 0, 0);
        m.push(SnobolMatcher.K_ALT, 0, 0);
        m.define(1);

        setSubject(m, "x=12;");
        tell("anchored", m, m.match(0, true));
        tell("unanchored", m, m.match(0, false));
        System.out.println("string variable 0: " + text(m, 0));

        setSubject(m, "(()))");
        tell("brackets", m, m.match(1, true));
        System.out.println("pattern 2: " + m.match(2, true));
    }

    private static void setSubject(SnobolMatcher m, String subject) {
        m.clearSubject();
        for (int i = 0; i < subject.length(); i++) {
            m.addSubjectChar(subject.charAt(i));
        }
    }

    private static void tell(String what, SnobolMatcher m, int result) {
        System.out.println(what + ": " + result + ", from " + m.status(SnobolMatcher.S_START)
            + " to " + m.status(SnobolMatcher.S_END));
    }

    private static String text(SnobolMatcher m, int v) {
        String text = "";
        for (int i = 0; i < m.varLength(v); i++) {
            text += m.varChar(v, i);
        }
        return text;
    }
}
