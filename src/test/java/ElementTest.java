/** Promise 8, "ELEMENTS": the outcomes of each kind, their order, their lists and the immediate writes. */
public final class ElementTest {
    public static void main(String[] args) {
        begunAt();
        lit();
        emptyAndFail();
        len();
        pos();
        rpos();
        any();
        span();
        breakLeaf();
        nothingBeyondTheSubject();
        arb();
        cursor();
        leavesHaveOneOutcome();
        leavesHaveNoList();
        deferLimit();
        deferUndefined();
        deferRoot();
        arbnoFirst();
        arbnoSkips();
        arbnoRepeats();
        arbnoLists();
        arbnoEnds();
        fenceFirst();
        fenceNone();
        fenceIsNotAskedAgain();
        imm();
        immTexts();
        cond();
        condTexts();
        cat();
        alt();
        depthFirst();
        depths();
        immediateWrites();
        Check.finish();
    }

    private static void begunAt() {
        Check.sentence("An element (node) is BEGUN at a cursor c (0 <= c <= n) with a deferral depth d.");
        for (int n = 0; n <= 16; n++) {
            String subject = Case.FULL.substring(0, n);
            for (int at = 0; at <= n; at++) {
                Case.of(subject, "LEN:" + at + " CURSOR:0 CAT").matches(at).cursor(0, at);
            }
            // No element is begun beyond the end.
            if (n < 16) {
                Case.of(subject, "LEN:" + (n + 1) + " CURSOR:0 CAT").findsNone().cursor(0, -1);
            }
        }
    }

    private static void lit() {
        Check.sentence("K_LIT a: if c < n and s[c] == a: c+1.");
        Case.outcomes("ab", 0, "LIT:a", 1);
        Case.outcomes("ab", 0, "LIT:b");
        Case.outcomes("ab", 1, "LIT:b", 2);
        Case.outcomes("ab", 1, "LIT:a");
        Case.outcomes("ab", 2, "LIT:b");
        Case.outcomes("", 0, "LIT:\u0000");
        Case.outcomes("\u0000", 0, "LIT:\u0000", 1);
        Case.outcomes("\u0000", 1, "LIT:\u0000");
        Case.outcomes("\uffff", 0, "LIT:\uffff", 1);
        Case.outcomes("\uffff", 0, "LIT:\ufffe");
        Case.outcomes(Case.FULL, 15, "LIT:f", 16);
        Case.outcomes(Case.FULL, 16, "LIT:f");
    }

    private static void emptyAndFail() {
        Check.sentence("K_EMPTY: c. K_FAIL: no outcome.");
        for (int at : new int[] {0, 1, 16}) {
            Case.outcomes(Case.FULL, at, "EMPTY", at);
            Case.outcomes(Case.FULL, at, "FAIL");
        }
        Case.outcomes("", 0, "EMPTY", 0);
        Case.outcomes("", 0, "FAIL");
    }

    private static void len() {
        Check.sentence("K_LEN a: if c+a <= n: c+a.");
        for (int at = 0; at <= 3; at++) {
            for (int a = 0; a <= 16; a++) {
                if (at + a <= 3) {
                    Case.outcomes("abc", at, "LEN:" + a, at + a);
                } else {
                    Case.outcomes("abc", at, "LEN:" + a);
                }
            }
        }
        Case.outcomes(Case.FULL, 0, "LEN:16", 16);
        Case.outcomes(Case.FULL, 1, "LEN:16");
        Case.outcomes(Case.FULL, 16, "LEN:0", 16);
        Case.outcomes(Case.FULL, 16, "LEN:16");
        Case.outcomes(Case.FULL.substring(1), 0, "LEN:16");
        Case.outcomes("", 0, "LEN:0", 0);
        Case.outcomes("", 0, "LEN:1");
    }

    private static void pos() {
        Check.sentence("K_POS a: if c == a: c.");
        for (int n : new int[] {0, 3, 16}) {
            for (int at = 0; at <= n; at++) {
                for (int a = 0; a <= 16; a++) {
                    Case c = Case.of(Case.FULL.substring(0, n), "LEN:" + at + " POS:" + a + " CAT");
                    if (at == a) {
                        c.matches(at);
                    } else {
                        c.fails();
                    }
                }
            }
        }
    }

    private static void rpos() {
        Check.sentence("K_RPOS a: if c == n-a: c.");
        for (int n : new int[] {0, 3, 15, 16}) {
            for (int at = 0; at <= n; at++) {
                for (int a = 0; a <= 16; a++) {
                    Case c = Case.of(Case.FULL.substring(0, n), "LEN:" + at + " RPOS:" + a + " CAT");
                    if (at == n - a) {
                        c.matches(at);
                    } else {
                        c.fails();
                    }
                }
            }
        }
    }

    private static void any() {
        Check.sentence("K_ANY a b: if c < n and a <= s[c] <= b: c+1.");
        Case.outcomes("abcde", 0, "ANY:bd");
        Case.outcomes("abcde", 1, "ANY:bd", 2);
        Case.outcomes("abcde", 2, "ANY:bd", 3);
        Case.outcomes("abcde", 3, "ANY:bd", 4);
        Case.outcomes("abcde", 4, "ANY:bd");
        Case.outcomes("abcde", 4, "ANY:ee", 5);
        Case.outcomes("abcde", 4, "ANY:dd");
        Case.outcomes("abcde", 5, "ANY:\u0000\uffff");
        Case.outcomes("\u0000\uffff", 0, "ANY:\u0000\uffff", 1);
        Case.outcomes("\u0000\uffff", 1, "ANY:\u0000\uffff", 2);
        Case.outcomes("", 0, "ANY:\u0000\uffff");
        Case.outcomes(Case.FULL, 15, "ANY:\u0000\uffff", 16);
    }

    private static void span() {
        Check.sentence("K_SPAN a b: let e be the greatest e <= n with a <= s[j] <= b for all c <= j < e; "
            + "if e > c: e (this one outcome only).");
        Case.outcomes("xbcdey", 0, "SPAN:be");
        Case.outcomes("xbcdey", 1, "SPAN:be", 5);
        Case.outcomes("xbcdey", 1, "SPAN:bd", 4);
        Case.outcomes("xbcdey", 1, "SPAN:bb", 2);
        Case.outcomes("xbcdey", 1, "SPAN:ce");
        Case.outcomes("xbcdey", 4, "SPAN:be", 5);
        Case.outcomes("xbcdey", 5, "SPAN:be");
        Case.outcomes("xbcdey", 6, "SPAN:\u0000\uffff");
        Case.outcomes("abab", 0, "SPAN:ab", 4);
        Case.outcomes("abab", 3, "SPAN:ab", 4);
        Case.outcomes("aaba", 0, "SPAN:aa", 2);
        Case.outcomes(Case.FULL, 0, "SPAN:\u0000\uffff", 16);
        Case.outcomes("", 0, "SPAN:\u0000\uffff");
        Case.of("aaa", "SPAN:aa LIT:a CAT").findsNone();
    }

    private static void breakLeaf() {
        Check.sentence("K_BREAK a b: if some j with c <= j < n has a <= s[j] <= b: the least such j (which may be c); "
            + "else no outcome.");
        Case.outcomes("xbcdey", 0, "BREAK:be", 1);
        Case.outcomes("xbcdey", 1, "BREAK:be", 1);
        Case.outcomes("xbcdey", 1, "BREAK:de", 3);
        Case.outcomes("xbcdey", 0, "BREAK:yz", 5);
        Case.outcomes("xbcdey", 5, "BREAK:yz", 5);
        Case.outcomes("xbcdey", 1, "BREAK:xx");
        Case.outcomes("xbcdey", 2, "BREAK:ab");
        Case.outcomes("xbcdey", 6, "BREAK:\u0000\uffff");
        Case.outcomes("abab", 0, "BREAK:bb", 1);
        Case.outcomes("abab", 2, "BREAK:bb", 3);
        Case.outcomes(Case.FULL, 0, "BREAK:ff", 15);
        Case.outcomes(Case.FULL, 0, "BREAK:gz");
        Case.outcomes("", 0, "BREAK:\u0000\uffff");
    }

    private static void nothingBeyondTheSubject() {
        Check.sentence("Let s be the subject and n its length.");
        for (String leaf : new String[] {"LIT:b", "ANY:bb", "SPAN:bb", "BREAK:bb", "LEN:1"}) {
            Case c = new Case("ab", 250, 8);
            c.subject("a").pattern(0, "LIT:a " + leaf + " CAT").fails();
        }
        // A char of a longer subject before this one neither lengthens a span nor an ARB.
        new Case("bbb", 250, 8).subject("b").pattern(0, "SPAN:bb").matches(1);
        new Case("bbb", 250, 8).subject("b").pattern(0, "ARB POS:2 CAT").fails();
        new Case("bbb", 250, 8).subject("b").pattern(0, "RPOS:0").finds(1, 1);
    }

    private static void arb() {
        Check.sentence("K_ARB: c, c+1, ..., n.");
        Case.outcomes("abc", 0, "ARB", 0, 1, 2, 3);
        Case.outcomes("abc", 1, "ARB", 1, 2, 3);
        Case.outcomes("abc", 2, "ARB", 2, 3);
        Case.outcomes("abc", 3, "ARB", 3);
        Case.outcomes("", 0, "ARB", 0);
        Case.outcomes(Case.FULL, 0, "ARB", 0, 1, 2, 3, 4, 5, 6, 7, 8, 9, 10, 11, 12, 13, 14, 15, 16);
        // CAT, ARB and a FAIL for each outcome.
        for (int n = 0; n <= 16; n++) {
            Case.takes(2 + n + 1, Case.FULL.substring(0, n), "ARB FAIL CAT");
        }
    }

    private static void cursor() {
        Check.sentence("K_CURSOR a: c; as it is produced, cursor variable a becomes c.");
        for (int at = 0; at <= 16; at++) {
            Case.of(Case.FULL, "LEN:" + at + " CURSOR:7 CAT").matches(at).cursor(7, at).cursor(6, -1);
        }
        Case.outcomes("abc", 0, "CURSOR:0", 0);
        Case.outcomes("abc", 3, "CURSOR:0", 3);
        Case.of("", "CURSOR:0").matches(0).cursor(0, 0);
        Case.of("a", "FAIL CURSOR:0 CAT").fails().cursor(0, -1);
        Case.of("a", "EMPTY CURSOR:0 ALT").matches(0).cursor(0, -1);
        Case.of("ab", "LEN:1 CURSOR:0 CAT LEN:1 CAT CURSOR:0 CAT").matches(2).cursor(0, 2);
        Case.of("ab", "ARB CURSOR:0 CAT FAIL CAT").fails().cursor(0, 2);
    }

    private static void leavesHaveOneOutcome() {
        Check.sentence("Once begun it produces OUTCOMES (end cursors) one at a time, each when asked, "
            + "in the order given below, until it is exhausted.");
        // CAT, LEN, CAT, the leaf, and one FAIL for its one outcome, or none.
        for (String leaf : new String[] {"LIT:b", "EMPTY", "LEN:0", "LEN:3", "POS:1", "RPOS:3", "ANY:bc", "SPAN:bb",
                "SPAN:bc", "BREAK:bb", "BREAK:dd", "CURSOR:0"}) {
            Case.takes(5, "abbd", "LEN:1 " + leaf + " FAIL CAT CAT");
        }
        for (String leaf : new String[] {"LIT:a", "FAIL", "LEN:4", "POS:0", "POS:2", "RPOS:2", "RPOS:4", "ANY:cd",
                "SPAN:aa", "BREAK:aa", "DEFER:3"}) {
            Case.takes(4, "abbd", "LEN:1 " + leaf + " FAIL CAT CAT");
        }
    }

    private static void leavesHaveNoList() {
        Check.sentence("Every outcome carries a LIST of triples (v, x, y); leaves give the empty list.");
        for (String leaf : new String[] {"LIT:a", "EMPTY", "LEN:1", "POS:0", "RPOS:1", "ANY:ab", "SPAN:ab", "BREAK:ab", "ARB"}) {
            writesNothing(leaf);
        }
        // Nor does any other kind but K_COND add a triple, or any but K_IMM write a text.
        for (String words : new String[] {"LEN:1 FENCE", "LEN:1 FAIL ALT", "FAIL LEN:1 ALT", "LEN:1 EMPTY CAT",
                "LEN:1 ARBNO", "LEN:1 ARBNO RPOS:0 CAT", "DEFER:1", "DEFER:1 FENCE ARBNO RPOS:0 CAT"}) {
            writesNothing(words);
        }
    }

    /** Sees that the pattern matches "a" and leaves every variable as it was. */
    private static void writesNothing(String words) {
        Case c = Case.of("xyz", "LEN:3 IMM:0 IMM:1 IMM:2 IMM:3 IMM:4 IMM:5 IMM:6 IMM:7 CURSOR:0 CAT").matches(3);
        String before = Check.vars(c.m);
        c.subject("a").pattern(1, "LEN:1").pattern(0, words);
        Check.due("match of " + words, c.m.match(0, true), SnobolMatcher.R_MATCHED);
        Check.due(words + " leaves", Check.vars(c.m), before);
    }

    private static void deferLimit() {
        Check.sentence("K_DEFER a: if d >= D, or pattern variable a is undefined: no outcome.");
        for (int limit = 0; limit <= 8; limit++) {
            new Case(Case.FULL, 250, limit).pattern(0, "LEN:1 DEFER:0 CAT EMPTY ALT").matches(limit);
            // Without a way out, a pattern that defers to itself has no outcome.
            new Case(Case.FULL, 250, limit).pattern(0, "DEFER:0").fails();
        }
        chainOfDeferrals(0);
        chainOfDeferrals(1);
        chainOfDeferrals(2);
        chainOfDeferrals(3);
    }

    /** Pattern 0 defers to 1, that to 2 and that to 3: it needs a limit of three. */
    private static void chainOfDeferrals(int limit) {
        Case c = new Case("a", 250, limit).pattern(3, "LIT:a").pattern(2, "DEFER:3").pattern(1, "DEFER:2").pattern(0, "DEFER:1");
        if (limit >= 3) {
            c.matches(1);
        } else {
            c.fails();
        }
    }

    private static void deferUndefined() {
        Check.sentence("or pattern variable a is undefined: no outcome");
        for (int v = 1; v < 4; v++) {
            Case.of("a", "DEFER:" + v).findsNone();
            Case.of("a", "DEFER:" + v + " EMPTY ALT").matches(0);
            Case c = Case.of("a", "DEFER:" + v + " EMPTY ALT").matches(0);
            c.pattern(v, "LIT:a").matches(1);
        }
    }

    private static void deferRoot() {
        Check.sentence("Else it begins the root of pattern variable a at c with depth d+1 "
            + "and produces that root's outcomes with their lists.");
        for (int v = 1; v < 4; v++) {
            Case c = new Case("xabc", 250, 1).pattern(v, "ARB COND:5").pattern(0, "LEN:1 DEFER:" + v + " CAT LIT:c CAT");
            c.matches(4).text(5, "ab");
        }
        Case.of("abc", "FAIL").pattern(1, "ARB").pattern(0, "DEFER:1 FAIL CAT CURSOR:0 ALT").matches(0).cursor(0, 0);
        Case.of("abc", "FAIL").pattern(1, "LEN:3").pattern(0, "DEFER:1").matches(3);
        Case.of("abc", "FAIL").pattern(1, "FAIL").pattern(0, "DEFER:1").fails();
    }

    private static void arbnoFirst() {
        Check.sentence("A repetition at c produces c (empty list)");
        Case.of("aaa", "LIT:a COND:0 ARBNO").matches(0).text(0, "");
        Case.of("aaa", "LIT:a IMM:0 ARBNO").matches(0).text(0, "");
        Case.of("aaa", "CURSOR:0 ARBNO").matches(0).cursor(0, -1);
        Case.of("aaa", "FAIL ARBNO").matches(0);
        Case.of("", "LIT:a ARBNO").matches(0);
        Case.outcomes("aaa", 3, "LIT:a ARBNO", 3);
    }

    private static void arbnoSkips() {
        Check.sentence("if p == c it is skipped (P is asked for its next)");
        Case.outcomes("abc", 0, "EMPTY ARBNO", 0);
        Case.outcomes("abc", 0, "EMPTY LEN:2 ALT ARBNO", 0, 2);
        Case.outcomes("abc", 1, "LEN:0 LEN:0 LEN:2 ALT ALT ARBNO", 1, 3);
        Case.outcomes("abc", 0, "ARB ARBNO", 0, 1, 2, 3);
        Case.outcomes("abc", 3, "ARB ARBNO", 3);
        Case.outcomes("abc", 0, "LIT:a ARBNO ARBNO", 0, 1);
        // A skipped outcome begins no repetition: CAT, ARBNO, FAIL, EMPTY and no more.
        Case.takes(4, "abc", "EMPTY ARBNO FAIL CAT");
        // But the write of a K_IMM that is skipped was made.
        Case.of("abc", "LEN:1 IMM:0 LEN:0 IMM:1 CURSOR:2 CAT ARBNO FAIL CAT CAT").fails().text(0, "a").text(1, "").cursor(2, 1);
        Case.of("abc", "CURSOR:3 ARBNO FAIL CAT").fails().cursor(3, 0);
    }

    private static void arbnoRepeats() {
        Check.sentence("else a new repetition at p is begun (same depth) and each of its outcomes is produced");
        Case.outcomes("aaab", 0, "LIT:a ARBNO", 0, 1, 2, 3);
        Case.outcomes("aaab", 1, "LIT:a ARBNO", 1, 2, 3);
        Case.outcomes("aaab", 3, "LIT:a ARBNO", 3);
        Case.outcomes("abcd", 0, "LEN:2 ARBNO", 0, 2, 4);
        Case.outcomes("abcde", 0, "LEN:2 ARBNO", 0, 2, 4);
        // Three chars come before two, and two before what follows them.
        Case.outcomes("abcd", 0, "LEN:3 LEN:2 ALT ARBNO", 0, 3, 2, 4);
        Case.outcomes(Case.FULL, 0, "LEN:1 ARBNO", 0, 1, 2, 3, 4, 5, 6, 7, 8, 9, 10, 11, 12, 13, 14, 15, 16);
        Case.outcomes(Case.FULL, 0, "LEN:16 ARBNO", 0, 16);
        // Sixteen repetitions stay at the depth of the first, so a limit of one is enough.
        new Case(Case.FULL, 250, 1).pattern(1, "LEN:1").pattern(0, "DEFER:1 ARBNO RPOS:0 CAT").matches(16);
    }

    private static void arbnoLists() {
        Check.sentence("with list = P's list followed by that repetition's list");
        Case.of("abc", "LEN:1 COND:0 ARBNO RPOS:0 CAT").matches(3).text(0, "c");
        Case.of("abc", "LEN:1 COND:0 ARBNO RPOS:1 CAT").matches(2).text(0, "b");
        Case.of("abc", "LEN:1 COND:0 ARBNO RPOS:3 CAT").matches(0).text(0, "");
        // The list of a given-up repetition is lost.
        Case.of("abcd", "LIT:a COND:1 LEN:3 COND:2 ALT ARBNO RPOS:0 CAT").matches(4).text(1, "a").text(2, "bcd");
        Case.of("abcd", "LEN:3 COND:1 LEN:2 COND:2 ALT ARBNO RPOS:0 CAT").matches(4).text(1, "").text(2, "cd");
    }

    private static void arbnoEnds() {
        Check.sentence("The repetition is exhausted when P is.");
        // CAT; for each of the 17 repetitions ARBNO, FAIL, LEN.
        Case.takes(1 + 17 * 3, Case.FULL, "LEN:1 ARBNO FAIL CAT");
        Case.takes(1 + 3, "", "LEN:1 ARBNO FAIL CAT");
        // ARB's first outcome is skipped. At the end ARBNO, FAIL, ARB; before it these and the same at each place further on.
        Case.takes(1 + 3 * (1 + 1 + 2 + 4), "abc", "ARB ARBNO FAIL CAT");
        Case.of("aab", "LIT:a ARBNO LIT:c CAT").findsNone();
    }

    private static void fenceFirst() {
        Check.sentence("K_FENCE (P): begins P at c; produces P's first outcome (with its list), if any, and is then exhausted");
        Case.outcomes("abc", 0, "ARB FENCE", 0);
        Case.outcomes("abc", 1, "ARB FENCE", 1);
        Case.outcomes("abc", 3, "ARB FENCE", 3);
        Case.outcomes("abc", 0, "LEN:2 LEN:1 ALT FENCE", 2);
        Case.outcomes("abc", 0, "FAIL LEN:1 ALT FENCE", 1);
        Case.outcomes("abc", 0, "LEN:4 LEN:3 LEN:2 ALT ALT FENCE", 3);
        Case.outcomes("abc", 0, "LEN:1 ARBNO FENCE", 0);
        Case.outcomes("abc", 0, "ARB FENCE FENCE", 0);
        Case.outcomes("aab", 0, "ARB LIT:b CAT FENCE", 3);
        Case.of("abc", "LEN:1 COND:1 LEN:1 COND:2 CAT FENCE COND:3 LIT:c CAT").matches(3).text(1, "a").text(2, "b").text(3, "ab");
        // Choices before and around a fence stay.
        Case.of("aab", "ARB LIT:a ARB CAT FENCE CAT LIT:b CAT").matches(3);
        Case.of("ab", "LIT:a FENCE LIT:a CAT LEN:2 ALT").matches(2);
        Case.of("abc", "LEN:1 FENCE ARBNO RPOS:0 CAT").matches(3);
        Case.of("ab", "ARB FENCE LIT:b CAT").fails().finds(1, 2);
    }

    private static void fenceNone() {
        Check.sentence("produces P's first outcome (with its list), if any");
        Case.outcomes("abc", 0, "FAIL FENCE");
        Case.outcomes("abc", 0, "LEN:4 FENCE");
        Case.of("abc", "FAIL FENCE LEN:2 ALT").matches(2);
        Case.of("abc", "LEN:1 COND:0 FAIL CAT FENCE LEN:2 ALT").matches(2).text(0, "");
        // A fence that fails gives the way back to what was begun before it.
        Case.of("abc", "ARB LIT:c FENCE CAT").matches(3);
    }

    private static void fenceIsNotAskedAgain() {
        Check.sentence("P is never asked again");
        Case.of("abc", "ARB IMM:0 FENCE FAIL CAT").fails().text(0, "");
        Case.of("abc", "LEN:2 IMM:0 LEN:3 IMM:1 ALT FENCE FAIL CAT").fails().text(0, "ab").text(1, "");
        Case.of("abc", "EMPTY CURSOR:4 ALT FENCE FAIL CAT").fails().cursor(4, -1);
        // CAT, FENCE, ARB, FAIL.
        Case.takes(4, "abc", "ARB FENCE FAIL CAT");
        Case.takes(5, "abc", "EMPTY EMPTY ALT FENCE FAIL CAT");
    }

    private static void imm() {
        Check.sentence("K_IMM (P) a: begins P at c; for each outcome p of P: string variable a becomes the text s[c..p) (p-c chars), "
            + "then p is produced with P's list.");
        Case.outcomes("abc", 1, "ARB IMM:0", 1, 2, 3);
        Case.outcomes("abc", 1, "FAIL IMM:0");
        for (int v = 0; v < 8; v++) {
            Case.of("abc", "LEN:1 ARB IMM:" + v + " CAT LIT:c CAT").matches(3).text(v, "b");
        }
        Case.of("abc", "LEN:1 COND:1 IMM:0 LEN:1 CAT").matches(2).text(0, "a").text(1, "a");
        Case.of("abc", "LEN:2 IMM:1 IMM:2").matches(2).text(1, "ab").text(2, "ab");
        // No outcome, no write.
        Case.of("abc", "LEN:2 IMM:1 FAIL IMM:1 CAT").fails().text(1, "ab");
        Case.of("abc", "FAIL IMM:1").findsNone().text(1, "");
        // The inner write of the same variable comes first.
        Case.of("abc", "LEN:1 LEN:1 IMM:0 CAT IMM:0").matches(2).text(0, "ab");
    }

    private static void immTexts() {
        Check.sentence("string variable a becomes the text s[c..p) (p-c chars)");
        for (int from : new int[] {0, 1, 8, 15, 16}) {
            for (int length : new int[] {0, 1, 8, 15, 16}) {
                if (from + length <= 16) {
                    Case c = Case.of(Case.FULL, "LEN:" + from + " LEN:" + length + " IMM:7 CAT FAIL CAT").fails();
                    c.text(7, Case.FULL.substring(from, from + length));
                }
            }
        }
        // The empty text replaces a longer one, and a longer one the empty text.
        Case.of("abc", "LEN:3 IMM:0 EMPTY IMM:0 CAT").matches(3).text(0, "");
        Case.of("abc", "EMPTY IMM:0 LEN:3 IMM:0 CAT").matches(3).text(0, "abc");
    }

    private static void cond() {
        Check.sentence("K_COND (P) a: begins P at c; each outcome p of P is produced with P's list followed by the triple (a, c, p).");
        Case.outcomes("abc", 1, "ARB COND:0", 1, 2, 3);
        Case.outcomes("abc", 1, "FAIL COND:0");
        for (int v = 0; v < 8; v++) {
            Case.of("abc", "LEN:1 ARB COND:" + v + " CAT LIT:c CAT").matches(3).text(v, "b");
        }
        Case.of("abc", "LEN:1 LEN:1 COND:0 CAT COND:0").matches(2).text(0, "ab");
        Case.of("abc", "LEN:1 COND:0 LEN:1 CAT COND:1").matches(2).text(0, "a").text(1, "ab");
        // The triple of a given-up outcome is lost.
        Case.of("abc", "LEN:1 COND:0 FAIL CAT LEN:2 COND:1 ALT").matches(2).text(0, "").text(1, "ab");
        Case.of("abc", "LEN:1 COND:0 LEN:2 ALT RPOS:1 CAT").matches(2).text(0, "");
    }

    private static void condTexts() {
        Check.sentence("each making string variable w the text s[x..y)");
        for (int from : new int[] {0, 1, 8, 15, 16}) {
            for (int length : new int[] {0, 1, 8, 15, 16}) {
                if (from + length <= 16) {
                    Case c = Case.of(Case.FULL, "LEN:" + from + " LEN:" + length + " COND:7 CAT").matches(from + length);
                    c.text(7, Case.FULL.substring(from, from + length));
                }
            }
        }
        Case.of("abc", "LEN:3 IMM:0 EMPTY COND:0 CAT").matches(3).text(0, "");
    }

    private static void cat() {
        Check.sentence("K_CAT (L, R): begins L at c; for each outcome x of L in turn: begins R at x and produces each outcome of R, "
            + "with list = L's list for x followed by R's list.");
        Case.outcomes("abc", 0, "LEN:1 LEN:2 CAT", 3);
        Case.outcomes("abc", 0, "LEN:1 LEN:3 CAT");
        Case.outcomes("abc", 0, "LEN:2 LEN:1 ALT LEN:1 LEN:0 ALT CAT", 3, 2, 1);
        Case.outcomes("abc", 3, "EMPTY EMPTY CAT", 3);
        Case.of("abc", "LEN:1 COND:0 LEN:1 COND:0 CAT").matches(2).text(0, "b");
        // The list for x and no other: the first alternative's triple is lost with its outcome.
        Case.of("abc", "LEN:1 COND:0 LEN:2 COND:1 ALT RPOS:1 COND:2 CAT").matches(2).text(0, "").text(1, "ab");
        // R is not begun without an outcome of L.
        Case.of("abc", "FAIL CURSOR:0 CAT").fails().cursor(0, -1);
        Case.takes(2, "abc", "FAIL EMPTY CAT");
        Case.of("abc", "ARB COND:0 ARB COND:1 CAT RPOS:0 CAT").matches(3).text(0, "").text(1, "abc");
    }

    private static void alt() {
        Check.sentence("K_ALT (L, R): begins L at c and produces all its outcomes, each with its own list; "
            + "then begins R at c and produces all its outcomes, each with its own list.");
        Case.outcomes("abc", 0, "LEN:1 LEN:2 ALT", 1, 2);
        Case.outcomes("abc", 1, "LEN:2 LEN:1 ALT", 3, 2);
        Case.outcomes("abc", 1, "FAIL LEN:1 ALT", 2);
        Case.outcomes("abc", 1, "LEN:1 FAIL ALT", 2);
        Case.outcomes("abc", 1, "FAIL FAIL ALT");
        Case.outcomes("abc", 1, "LEN:2 LEN:1 ALT LEN:0 ALT", 3, 2, 1);
        Case.of("aab", "LIT:a LEN:2 ALT IMM:0 LIT:b CAT").matches(3).text(0, "aa");
        Case.of("abc", "LEN:2 COND:0 LEN:2 COND:1 ALT").matches(2).text(0, "ab").text(1, "");
        Case.of("abc", "LEN:2 COND:0 LEN:1 COND:1 ALT RPOS:2 CAT").matches(1).text(0, "").text(1, "a");
        // R is begun only when L is exhausted.
        Case.of("abc", "LEN:1 CURSOR:0 ALT").matches(1).cursor(0, -1);
        Case.of("abc", "ARB CURSOR:0 ALT RPOS:0 CAT").matches(3).cursor(0, -1);
        // The same outcome twice is two outcomes: CAT, ALT, EMPTY, FAIL, EMPTY, FAIL.
        Case.takes(6, "abc", "EMPTY EMPTY ALT FAIL CAT");
    }

    private static void depthFirst() {
        Check.sentence("an outcome is at once followed by whatever comes after the element; the element is asked for its next outcome "
            + "only when everything after that outcome is exhausted");
        // Cursor 0 tells the left ARB's last outcome, cursor 1 the right one's.
        Case.of("abcd", "ARB CURSOR:0 CAT ARB CURSOR:1 CAT CAT LIT:c CAT").matches(3).cursor(0, 0).cursor(1, 2);
        Case.of("abcd", "ARB IMM:0 ARB IMM:1 LIT:b CAT CAT LIT:x CAT").fails().text(0, "abcd").text(1, "");
        Case.of("ab", "LEN:1 IMM:0 LEN:2 IMM:0 ALT RPOS:1 CAT").matches(1).text(0, "a");
    }

    private static void depths() {
        Check.sentence("Children are begun at their parent's depth, except under K_DEFER as said.");
        // With a limit of one, a deferral under any kind but K_DEFER has its outcomes.
        for (String around : new String[] {"FENCE", "IMM:0", "COND:0", "FAIL ALT", "EMPTY CAT", "ARBNO POS:1 CAT"}) {
            new Case("ab", 250, 1).pattern(1, "LIT:a").pattern(0, "DEFER:1 " + around).matches(1);
            new Case("ab", 250, 0).pattern(1, "LIT:a").pattern(0, "DEFER:1 " + around).fails();
            new Case("ab", 250, 1).pattern(2, "LIT:a").pattern(1, "DEFER:2 " + around).pattern(0, "DEFER:1").fails();
            new Case("ab", 250, 2).pattern(2, "LIT:a").pattern(1, "DEFER:2 " + around).pattern(0, "DEFER:1").matches(1);
        }
        // Right children, too; and what comes after a deferral is back at the depth before it.
        new Case("ab", 250, 1).pattern(1, "LEN:1").pattern(0, "DEFER:1 DEFER:1 CAT").matches(2);
        new Case("ab", 250, 1).pattern(1, "LEN:1").pattern(0, "FAIL DEFER:1 ALT").matches(1);
        new Case("ab", 250, 1).pattern(1, "FAIL").pattern(2, "LEN:1").pattern(0, "DEFER:1 DEFER:2 ALT").matches(1);
        // The way back from a deferral leads to the depth of the element that is asked for more.
        new Case("ab", 250, 1).pattern(1, "LIT:a").pattern(2, "LIT:b").pattern(0, "DEFER:1 ARBNO DEFER:2 CAT").matches(2);
        new Case("ab", 250, 1).pattern(2, "LIT:b").pattern(0, "ARB DEFER:2 CAT").matches(2);
    }

    private static void immediateWrites() {
        Check.sentence("The writes by K_CURSOR and K_IMM are IMMEDIATE: they stay even if the search backtracks or fails.");
        Case.of("abc", "LEN:2 IMM:0 CURSOR:0 CAT FAIL CAT").fails().text(0, "ab").cursor(0, 2);
        Case.of("abc", "LEN:2 IMM:0 CURSOR:0 CAT FAIL CAT EMPTY ALT").matches(0).text(0, "ab").cursor(0, 2);
        Case.of("abc", "LEN:2 IMM:0 CURSOR:0 CAT FAIL CAT").findsNone().text(0, "bc").cursor(0, 3);
        Case.of("abc", "ARB IMM:3 FAIL CAT").findsNone().text(3, "");
        Case.of("abc", "LIT:a IMM:1 LIT:x CAT LIT:b ALT").finds(1, 2).text(1, "a");
    }
}
