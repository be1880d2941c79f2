/** Promises 5, 6 and 7: addSubjectChar, clearSubject and clearVars. */
public final class SubjectTest {
    private static final int MIN = Integer.MIN_VALUE;
    private static final int MAX = Integer.MAX_VALUE;
    private static final int[] NO_CHARS = {MIN, MIN + 1, -65536, -65535, -2, -1, 65536, 65537, 131072, MAX - 1, MAX};

    public static void main(String[] args) {
        charsOutsideTheRange();
        charsInsideTheRange();
        subjectFull();
        badCharOnAFullSubject();
        appendsAtTheEnd();
        textsAreCopies();
        addSubjectCharChangesNothingElse();
        clearSubjectEmpties();
        clearSubjectKeepsTheRest();
        startAndEndMayExceedTheLength();
        clearVarsEmpties();
        clearVarsKeepsTheRest();
        Check.finish();
    }

    private static void charsOutsideTheRange() {
        Check.sentence("c not in 0..65535: E_ARG");
        for (int c : NO_CHARS) {
            SnobolMatcher m = Check.used();
            Check.due("addSubjectChar(" + c + ")", m.addSubjectChar(c), SnobolMatcher.E_ARG);
            Check.due("after it", Check.state(m), Check.state(Check.used()));
        }
    }

    private static void charsInsideTheRange() {
        Check.sentence("Otherwise c is appended at the end; answer: the new subject length.");
        for (int c : new int[] {0, 1, 127, 128, 255, 256, 32767, 32768, 55296, 65534, 65535}) {
            SnobolMatcher m = Check.fresh();
            Check.due("addSubjectChar(" + c + ")", m.addSubjectChar(c), 1);
            Check.due("subjectChar(0)", m.subjectChar(0), c);
        }
    }

    private static void subjectFull() {
        Check.sentence("the subject holds maxSubject chars: E_SUBJECT_FULL");
        for (int max = 1; max <= 16; max++) {
            SnobolMatcher m = new SnobolMatcher(max, 250, 8);
            for (int length = 1; length <= max; length++) {
                Check.due("char " + length + " of " + max, m.addSubjectChar('a' + length), length);
            }
            String before = Check.state(m);
            Check.due("a char more than " + max, m.addSubjectChar(0), SnobolMatcher.E_SUBJECT_FULL);
            Check.due("again", m.addSubjectChar(65535), SnobolMatcher.E_SUBJECT_FULL);
            Check.due("after it", Check.state(m), before);
            m.clearSubject();
            Check.due("after clearSubject", m.addSubjectChar('x'), 1);
        }
    }

    private static void badCharOnAFullSubject() {
        Check.sentence("Tests in order: c not in 0..65535: E_ARG; the subject holds maxSubject chars: E_SUBJECT_FULL.");
        SnobolMatcher m = new SnobolMatcher(1, 250, 8);
        m.addSubjectChar('a');
        for (int c : NO_CHARS) {
            Check.due("addSubjectChar(" + c + ") on a full subject", m.addSubjectChar(c), SnobolMatcher.E_ARG);
        }
        Check.due("subject", m.status(SnobolMatcher.S_SUBJECT), 1);
    }

    private static void appendsAtTheEnd() {
        Check.sentence("Otherwise c is appended at the end");
        SnobolMatcher m = Check.fresh();
        for (int length = 1; length <= 16; length++) {
            m.addSubjectChar(1000 + length);
            for (int i = 0; i < 17; i++) {
                Check.due("char " + i + " of " + length, m.subjectChar(i), i < length ? 1001 + i : 0);
            }
        }
    }

    private static void textsAreCopies() {
        Check.sentence("String variables are copies of text and never change because the subject changes.");
        Case c = Case.of(Case.FULL, "LEN:16 IMM:0 COND:1").matches(16);
        c.subject("").text(0, Case.FULL).text(1, Case.FULL);
        c.subject("ZZZZZZZZZZZZZZZZ").text(0, Case.FULL).text(1, Case.FULL);
        c = Case.of("ab", "RPOS:0 IMM:0 COND:1").finds(2, 2);
        c.subject("abc").text(0, "").text(1, "");
    }

    private static void addSubjectCharChangesNothingElse() {
        Check.sentence("Nothing else changes.");
        SnobolMatcher m = Check.used();
        SnobolMatcher twin = Check.used();
        m.addSubjectChar('d');
        Check.due("results", Check.results(m), Check.results(twin));
        Check.due("what is built", Check.built(m), Check.built(twin));
        Check.due("variables", Check.vars(m), Check.vars(twin));
    }

    private static void clearSubjectEmpties() {
        Check.sentence("`clearSubject()` makes the subject empty.");
        for (int length = 0; length <= 16; length++) {
            SnobolMatcher m = Check.fresh();
            Check.subject(m, Case.FULL.substring(0, length));
            m.clearSubject();
            Check.due("length", m.status(SnobolMatcher.S_SUBJECT), 0);
            for (int i = 0; i < 16; i++) {
                Check.due("subjectChar(" + i + ")", m.subjectChar(i), 0);
            }
            Check.due("the next char", m.addSubjectChar('x'), 1);
            Check.due("char 0", m.subjectChar(0), 'x');
            Check.due("char 1", m.subjectChar(1), 0);
        }
        Case.of(Case.FULL, "LEN:1").subject("").findsNone();
        Case.of(Case.FULL, "RPOS:0").subject("").finds(0, 0);
    }

    private static void clearSubjectKeepsTheRest() {
        Check.sentence("Nothing else changes: in particular the last result, start and end are kept");
        for (SnobolMatcher m : new SnobolMatcher[] {Check.fresh(), Check.used(), States.failed(), States.outOfSteps()}) {
            String before = Check.results(m) + Check.built(m) + Check.vars(m);
            m.clearSubject();
            Check.due("the rest", Check.results(m) + Check.built(m) + Check.vars(m), before);
            m.clearSubject();
            Check.due("the rest, once more", Check.results(m) + Check.built(m) + Check.vars(m), before);
        }
    }

    private static void startAndEndMayExceedTheLength() {
        Check.sentence("(so the last start and end may afterwards exceed the subject length)");
        Case c = Case.of(Case.FULL, "RPOS:1 LEN:1 CAT").finds(15, 16);
        c.m.clearSubject();
        Check.due("result", c.m.status(SnobolMatcher.S_RESULT), SnobolMatcher.R_MATCHED);
        Check.due("start", c.m.status(SnobolMatcher.S_START), 15);
        Check.due("end", c.m.status(SnobolMatcher.S_END), 16);
        Check.due("length", c.m.status(SnobolMatcher.S_SUBJECT), 0);
    }

    private static void clearVarsEmpties() {
        Check.sentence("`clearVars()` makes every string variable the empty text and every cursor variable -1.");
        StringBuilder words = new StringBuilder("LEN:16");
        for (int v = 0; v < 8; v++) {
            words.append(" IMM:").append(v).append(" CURSOR:").append(v).append(" CAT");
        }
        Case c = Case.of(Case.FULL, words.toString()).matches(16);
        for (int v = 0; v < 8; v++) {
            c.text(v, Case.FULL).cursor(v, 16);
        }
        c.m.clearVars();
        Check.due("variables", Check.vars(c.m), Check.vars(Check.fresh()));
        c.m.clearVars();
        Check.due("variables, once more", Check.vars(c.m), Check.vars(Check.fresh()));
        SnobolMatcher empty = Check.fresh();
        empty.clearVars();
        Check.due("a new object", Check.state(empty), Check.state(Check.fresh()));
    }

    private static void clearVarsKeepsTheRest() {
        Check.sentence("Nothing else changes (nodes, stack, pattern variables, subject, last result, start and end are kept).");
        for (SnobolMatcher m : new SnobolMatcher[] {Check.fresh(), Check.used(), States.failed(), States.outOfSteps(),
                States.fullPool(), States.fullStack()}) {
            String before = Check.results(m) + Check.built(m) + Check.subject(m);
            m.clearVars();
            Check.due("the rest", Check.results(m) + Check.built(m) + Check.subject(m), before);
        }
    }
}
