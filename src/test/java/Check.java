/** Counts and prints the answers that are not the due ones, and tells a matcher's whole state. */
final class Check {
    private static int wrong = 0;
    private static String sentence = "";
    private static int checksOfSentence = 0;

    private Check() {}

    /** The checks from here on, at least one, are of these words of the document. */
    static void sentence(String words) {
        endSentence();
        sentence = words;
        checksOfSentence = 0;
    }

    private static void endSentence() {
        if (!sentence.isEmpty() && checksOfSentence == 0) {
            wrong++;
            System.out.println("[" + sentence + "] has no check");
        }
    }

    static void due(String call, long got, long want) {
        due(call, String.valueOf(got), String.valueOf(want));
    }

    static void due(String call, String got, String want) {
        checksOfSentence++;
        if (!got.equals(want)) {
            wrong++;
            System.out.println("[" + sentence + "] " + call + " answered <" + got + ">, due is <" + want + ">");
        }
    }

    static void isTrue(String what, boolean holds) {
        due(what, holds ? "true" : "false", "true");
    }

    static void finish() {
        endSentence();
        System.out.println(wrong == 0 ? "all answers are as due" : wrong + " answers are not as due");
        if (wrong != 0) {
            System.exit(1);
        }
    }

    static boolean anyWrong() {
        return wrong != 0;
    }

    static SnobolMatcher fresh() {
        return new SnobolMatcher(16, 250, 8);
    }

    /** An object with something in every part of its state, and a subject "abc". */
    static SnobolMatcher used(int maxSubject, int stepLimit, int deferLimit) {
        SnobolMatcher m = new SnobolMatcher(maxSubject, stepLimit, deferLimit);
        subject(m, "abc");
        Postfix.define(m, 2, "LIT:b IMM:1 COND:7 CURSOR:3 CAT");
        Postfix.push(m, "EMPTY FAIL");
        due("match of b", m.match(2, false), SnobolMatcher.R_MATCHED);
        return m;
    }

    static SnobolMatcher used() {
        return used(16, 250, 8);
    }

    static void subject(SnobolMatcher m, String text) {
        m.clearSubject();
        for (int i = 0; i < text.length(); i++) {
            due("addSubjectChar in \"" + text + "\"", m.addSubjectChar(text.charAt(i)), i + 1);
        }
    }

    static String var(SnobolMatcher m, int v) {
        StringBuilder text = new StringBuilder();
        for (int i = 0; i < m.varLength(v); i++) {
            text.append(m.varChar(v, i));
        }
        return text.toString();
    }

    /** Everything that the observers tell, wrong arguments included. */
    static String state(SnobolMatcher m) {
        return results(m) + built(m) + subject(m) + vars(m);
    }

    static String results(SnobolMatcher m) {
        return "results " + m.status(SnobolMatcher.S_RESULT) + ' ' + m.status(SnobolMatcher.S_START)
            + ' ' + m.status(SnobolMatcher.S_END) + ' ' + m.status(-1) + ' ' + m.status(6);
    }

    static String built(SnobolMatcher m) {
        return nodes(m) + stack(m) + roots(m);
    }

    static String nodes(SnobolMatcher m) {
        StringBuilder s = new StringBuilder("\nnodes " + m.status(SnobolMatcher.S_NODES) + ':');
        for (int i = -1; i <= 32; i++) {
            for (int f = -1; f <= 5; f++) {
                s.append(' ').append(m.nodeField(i, f));
            }
        }
        return s.toString();
    }

    static String stack(SnobolMatcher m) {
        StringBuilder s = new StringBuilder("\nstack " + m.status(SnobolMatcher.S_STACK) + ':');
        for (int k = -1; k <= 16; k++) {
            s.append(' ').append(m.stackEntry(k));
        }
        return s.toString();
    }

    static String roots(SnobolMatcher m) {
        StringBuilder s = new StringBuilder("\nroots");
        for (int v = -1; v <= 4; v++) {
            s.append(' ').append(m.patternRoot(v));
        }
        return s.toString();
    }

    static String subject(SnobolMatcher m) {
        StringBuilder s = new StringBuilder("\nsubject " + m.status(SnobolMatcher.S_SUBJECT) + ':');
        for (int i = -1; i <= 16; i++) {
            s.append(' ').append((int) m.subjectChar(i));
        }
        return s.toString();
    }

    static String vars(SnobolMatcher m) {
        StringBuilder s = new StringBuilder("\nvars");
        for (int v = -1; v <= 8; v++) {
            s.append(" [").append(m.cursorVar(v)).append(' ').append(m.varLength(v)).append(':');
            for (int i = -1; i <= 16; i++) {
                s.append(' ').append((int) m.varChar(v, i));
            }
            s.append(']');
        }
        return s.toString();
    }
}
