/** Counts and prints the answers that are not the due ones, and drives a matcher in short words. */
final class Check {
    private static int wrong = 0;

    private Check() {}

    static void due(String call, long got, long want) {
        if (got != want) {
            wrong++;
            System.out.println(call + " answered " + got + ", due is " + want);
        }
    }

    static void due(String call, String got, String want) {
        if (!got.equals(want)) {
            wrong++;
            System.out.println(call + " answered <" + got + ">, due is <" + want + ">");
        }
    }

    static void finish() {
        System.out.println(wrong == 0 ? "all answers are as due" : wrong + " answers are not as due");
        if (wrong != 0) {
            System.exit(1);
        }
    }

    static boolean anyWrong() {
        return wrong != 0;
    }

    static SnobolMatcher fresh() {
        return new SnobolMatcher(16, 250, 8);
    }

    static void subject(SnobolMatcher m, String text) {
        m.clearSubject();
        for (int i = 0; i < text.length(); i++) {
            due("addSubjectChar in \"" + text + "\"", m.addSubjectChar(text.charAt(i)), i + 1);
        }
    }

    static String var(SnobolMatcher m, int v) {
        StringBuilder text = new StringBuilder();
        for (int i = 0; i < m.varLength(v); i++) {
            text.append(m.varChar(v, i));
        }
        return text.toString();
    }

    /** Everything that the observers tell, wrong arguments included. */
    static String state(SnobolMatcher m) {
        StringBuilder s = new StringBuilder();
        s.append("status");
        for (int item = -1; item <= 6; item++) {
            s.append(' ').append(m.status(item));
        }
        s.append("\nroots");
        for (int v = -1; v <= 4; v++) {
            s.append(' ').append(m.patternRoot(v));
        }
        s.append("\nstack");
        for (int k = -1; k <= 16; k++) {
            s.append(' ').append(m.stackEntry(k));
        }
        s.append("\nsubject");
        for (int i = -1; i <= 16; i++) {
            s.append(' ').append((int) m.subjectChar(i));
        }
        s.append("\nnodes");
        for (int i = -1; i <= 32; i++) {
            for (int f = -1; f <= 5; f++) {
                s.append(' ').append(m.nodeField(i, f));
            }
        }
        s.append('\n').append(vars(m));
        return s.toString();
    }

    static String vars(SnobolMatcher m) {
        StringBuilder s = new StringBuilder("vars");
        for (int v = -1; v <= 8; v++) {
            s.append(" [").append(m.cursorVar(v)).append(' ').append(m.varLength(v)).append(':');
            for (int i = -1; i <= 16; i++) {
                s.append(' ').append((int) m.varChar(v, i));
            }
            s.append(']');
        }
        return s.toString();
    }
}
