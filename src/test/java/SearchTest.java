/** Promise 8, "THE MATCH" and "STEP LIMIT": the refusals, the starts, the result and the steps. */
public final class SearchTest {
    private static final int MIN = Integer.MIN_VALUE;
    private static final int MAX = Integer.MAX_VALUE;

    public static void main(String[] args) {
        refusals();
        refusalsInOrder();
        matchKeepsWhatIsBuilt();
        anchoredStart();
        unanchoredStarts();
        firstOutcomeEndsTheMatch();
        startAndEnd();
        triplesInOrder();
        triplesComeLast();
        noStartLeft();
        laterMatchesReplaceTheResult();
        stepsOfTheRootAndChildren();
        stepsOfRepetitions();
        stepsOfDeferrals();
        stepsOfTheGreatestLimit();
        stepLimitIsReachedNotPassed();
        lastElementBegun();
        noFurtherStart();
        stepsAreCountedForEachStart();
        triplesOnlyOnMatched();
        immediateWritesRemain();
        longLists();
        Check.finish();
    }

    private static void refusals() {
        Check.sentence("v not in 0..3: E_ARG; pattern variable v undefined: E_UNDEFINED.");
        for (int defined = 0; defined < 4; defined++) {
            SnobolMatcher m = Check.fresh();
            Postfix.define(m, defined, "EMPTY");
            String before = Check.state(m);
            for (int v : new int[] {MIN, MIN + 1, -4, -1, 4, 5, 8, 256, 65536, MAX}) {
                Check.due("match(" + v + ")", m.match(v, false), SnobolMatcher.E_ARG);
                Check.due("match(" + v + ")", m.match(v, true), SnobolMatcher.E_ARG);
            }
            for (int v = 0; v < 4; v++) {
                if (v != defined) {
                    Check.due("match(" + v + ")", m.match(v, false), SnobolMatcher.E_UNDEFINED);
                    Check.due("match(" + v + ")", m.match(v, true), SnobolMatcher.E_UNDEFINED);
                }
            }
            Check.due("after refusals", Check.state(m), before);
            Check.due("match(" + defined + ")", m.match(defined, true), SnobolMatcher.R_MATCHED);
        }
    }

    private static void refusalsInOrder() {
        Check.sentence("Tests in order: v not in 0..3: E_ARG; pattern variable v undefined: E_UNDEFINED.");
        SnobolMatcher m = Check.fresh();
        Check.due("match(4) with nothing defined", m.match(4, true), SnobolMatcher.E_ARG);
        Check.due("match(-1) with nothing defined", m.match(-1, true), SnobolMatcher.E_ARG);
        Check.due("match(3) with nothing defined", m.match(3, true), SnobolMatcher.E_UNDEFINED);
        Postfix.define(m, 3, "EMPTY");
        m.match(3, true);
        m.clearAll();
        Check.due("match(3) after clearAll", m.match(3, true), SnobolMatcher.E_UNDEFINED);
        Check.due("result after clearAll", m.status(SnobolMatcher.S_RESULT), SnobolMatcher.R_NONE);
    }

    private static void matchKeepsWhatIsBuilt() {
        Check.sentence("Nodes, the build stack, pattern variables and the subject never change.");
        String[] patterns = {"ARB COND:0 CURSOR:1 CAT RPOS:0 CAT", "ARB IMM:0 FAIL CAT", "ARB ARB ARB FAIL CAT CAT CAT"};
        for (String words : patterns) {
            SnobolMatcher m = new SnobolMatcher(16, 16, 8);
            Check.subject(m, "abc");
            Postfix.define(m, 0, words);
            Postfix.push(m, "EMPTY FAIL");
            String before = Check.built(m) + Check.subject(m);
            m.match(0, true);
            m.match(0, false);
            Check.due("after " + words, Check.built(m) + Check.subject(m), before);
        }
    }

    private static void anchoredStart() {
        Check.sentence("Start positions: only 0 if anchored");
        Case.of("aba", "LIT:b").fails();
        Case.of("aba", "LIT:a").matches(1);
        Case.of("aba", "RPOS:0").fails();
        Case.of("", "RPOS:0").matches(0);
        Case.of("aba", "CURSOR:0 FAIL CAT").fails().cursor(0, 0);
    }

    private static void unanchoredStarts() {
        Check.sentence("else 0, 1, ..., n in that order");
        for (int n = 0; n <= 16; n++) {
            String subject = Case.FULL.substring(0, n);
            for (int start = 0; start <= n; start++) {
                Case.of(subject, "POS:" + start).finds(start, start);
                Case.of(subject, "POS:" + start + " RPOS:0 ALT").finds(start, start);
            }
            Case.of(subject, "CURSOR:0 FAIL CAT").findsNone().cursor(0, n);
            if (n < 16) {
                Case.of(subject, "POS:" + (n + 1)).findsNone();
            }
        }
        Case.of("aba", "LIT:b").finds(1, 2);
        Case.of("aba", "LIT:a").finds(0, 1);
        Case.of("aba", "LIT:c").findsNone();
    }

    private static void firstOutcomeEndsTheMatch() {
        Check.sentence("The first outcome e produced by the root ends the whole match");
        Case.of("abc", "LEN:2 IMM:0 LEN:1 IMM:1 ALT").matches(2).text(0, "ab").text(1, "");
        Case.of("abc", "ARB IMM:0 CURSOR:0 CAT").finds(0, 0).text(0, "").cursor(0, 0);
        Case.of("abc", "LEN:1 IMM:0 COND:1").finds(0, 1).text(0, "a").text(1, "a");
    }

    private static void startAndEnd() {
        Check.sentence("result R_MATCHED, start t, end e");
        for (int start = 0; start <= 16; start++) {
            for (int end = start; end <= 16; end++) {
                Case.of(Case.FULL, "POS:" + start + " LEN:" + (end - start) + " CAT").finds(start, end);
            }
        }
    }

    private static void triplesInOrder() {
        Check.sentence("then the triples (w, x, y) of e's list are applied in list order, "
            + "each making string variable w the text s[x..y) (so a later triple for the same w wins)");
        Case.of("abc", "LEN:1 COND:0 LEN:1 COND:0 CAT LEN:1 COND:0 CAT").matches(3).text(0, "c");
        Case.of("abc", "LEN:1 COND:0 LEN:1 COND:1 CAT LEN:1 COND:0 CAT").matches(3).text(0, "c").text(1, "b");
        Case.of("abc", "LEN:3 COND:0 EMPTY COND:0 CAT").matches(3).text(0, "");
        Case.of("abc", "LEN:1 COND:0 LEN:2 CAT COND:0").matches(3).text(0, "abc");
        Case.of("abc", "LEN:1 COND:0 COND:1 COND:0").matches(1).text(0, "a").text(1, "a");
        Case.of("xabc", "LIT:a COND:7 LIT:b COND:0 CAT").finds(1, 3).text(7, "a").text(0, "b");
        Case.of("", "EMPTY COND:0").matches(0).text(0, "");
    }

    private static void triplesComeLast() {
        Check.sentence("then the triples (w, x, y) of e's list are applied");
        Case.of("abc", "LEN:1 COND:0 LEN:1 IMM:0 CAT").matches(2).text(0, "a");
        Case.of("abc", "LEN:1 COND:0 IMM:0").matches(1).text(0, "a");
        Case.of("abc", "LEN:1 COND:0 LEN:2 CAT IMM:0").matches(3).text(0, "a");
        // The list of an earlier start is lost with it.
        Case.of("ab", "LIT:b LIT:a COND:0 LIT:x CAT ALT").finds(1, 2).text(0, "");
        Case.of("abc", "LIT:a COND:0 EMPTY ALT LIT:c CAT").finds(2, 3).text(0, "");
        Case.of("abc", "LEN:1 COND:0 LIT:x CAT LIT:b COND:1 ALT").finds(1, 2).text(0, "").text(1, "b");
    }

    private static void noStartLeft() {
        Check.sentence("If the root is exhausted, the next start is tried; if none is left: R_FAILED, start -1, end -1.");
        Case.of("", "FAIL").findsNone().fails();
        Case.of(Case.FULL, "FAIL").findsNone().fails();
        Case.of(Case.FULL, "LIT:f").fails().finds(15, 16);
        Case.of(Case.FULL, "LIT:f RPOS:1 CAT").findsNone();
    }

    private static void laterMatchesReplaceTheResult() {
        Check.sentence("Otherwise the match runs; the last result, start and end are set as below; answer: the result.");
        Case c = new Case("ab", 16, 8).pattern(0, "LIT:b").finds(1, 2).fails().finds(1, 2);
        c.pattern(0, "EMPTY" + Postfix.times(16, "FENCE")).runsOut();
        c.pattern(0, "LEN:2").matches(2).finds(0, 2);
        c.subject("").fails().findsNone();
    }

    private static void stepsOfTheRootAndChildren() {
        Check.sentence("Just before any element is begun — the root; every child;");
        // A chain of unary kinds under the root: as many steps as nodes.
        for (String unary : new String[] {"FENCE", "IMM:0", "COND:0"}) {
            for (int nodes = 15; nodes <= 18; nodes++) {
                Case c = new Case("a", 16, 8).pattern(0, "EMPTY" + Postfix.times(nodes - 1, unary));
                if (nodes <= 16) {
                    c.matches(0).finds(0, 0);
                } else {
                    c.runsOut().runsOutSearching();
                }
            }
        }
        for (String leaf : new String[] {"LIT:b", "FAIL", "LEN:2", "POS:1", "RPOS:0", "ANY:bb", "SPAN:bb", "BREAK:bb", "DEFER:3"}) {
            Case.takes(1, "a", leaf);
        }
        for (String leaf : new String[] {"LIT:a", "EMPTY", "LEN:1", "POS:0", "RPOS:1", "ANY:aa", "SPAN:aa", "BREAK:aa", "CURSOR:0"}) {
            Case.takes(3, "a", leaf + " FAIL CAT");
            Case.takes(5, "a", "FAIL " + leaf + " ALT FAIL CAT");
        }
        Case.takes(3, "a", "FAIL FAIL ALT");
        Case.takes(2, "a", "FAIL FENCE");
        Case.takes(2, "a", "FAIL IMM:0");
        Case.takes(2, "a", "FAIL COND:0");
        // CAT's right child is begun for each outcome of the left one.
        Case.takes(2 + 3 * 2, "ab", "ARB FAIL FENCE CAT");
    }

    private static void stepsOfRepetitions() {
        Check.sentence("every repetition of a K_ARBNO element, the first one included (the K_ARBNO element begun at c is that first repetition);");
        // CAT, ARBNO, FAIL, and the child without outcome.
        Case.takes(4, "a", "FAIL ARBNO FAIL CAT");
        // CAT; ARBNO, FAIL and LEN at each place.
        Case.takes(1 + 3 * 2, "a", "LEN:1 ARBNO FAIL CAT");
        Case.takes(1 + 3 * 6, "abcde", "LEN:1 ARBNO FAIL CAT");
        // CAT, the outer ARBNO, FAIL, the inner ARBNO, whose first outcome is skipped, and LEN.
        Case.takes(5, "", "LEN:1 ARBNO ARBNO FAIL CAT");
        // A match that needs the last step for its last repetition.
        for (int n = 7; n <= 16; n++) {
            // CAT, ARBNO, RPOS; LEN, ARBNO, RPOS for each char.
            matchesWithSteps(3 + 3 * n, Case.FULL.substring(0, n), "LEN:1 ARBNO RPOS:0 CAT", n);
            runsOutWithSteps(2 + 3 * n, Case.FULL.substring(0, n), "LEN:1 ARBNO RPOS:0 CAT");
        }
    }

    private static void matchesWithSteps(int limit, String subject, String words, int end) {
        new Case(subject, limit, 8).pattern(0, words).matches(end);
    }

    private static void runsOutWithSteps(int limit, String subject, String words) {
        new Case(subject, limit, 8).pattern(0, words).runsOut();
    }

    private static void stepsOfDeferrals() {
        Check.sentence("a K_DEFER node and the root it refers to each count once");
        for (int fences = 13; fences <= 16; fences++) {
            Case c = new Case("a", 16, 8).pattern(1, "LIT:a").pattern(0, "DEFER:1" + Postfix.times(fences, "FENCE"));
            if (fences + 2 <= 16) {
                c.matches(1);
            } else {
                c.runsOut();
            }
        }
        // One to an undefined variable counts alone.
        Case.takes(1, "", "DEFER:3");
        for (int limit = 0; limit <= 8; limit++) {
            // FENCEs, DEFER; CAT, EMPTY and DEFER at each depth from 1. The last DEFER begins nothing.
            int fences = limit < 6 ? 16 - 3 * limit : 0;
            int steps = fences + 1 + 3 * limit;
            String words = "DEFER:1" + Postfix.times(fences, "FENCE");
            new Case("", steps, limit).pattern(1, "EMPTY DEFER:1 CAT").pattern(0, words).fails();
            new Case("", steps - 1, limit).pattern(1, "EMPTY DEFER:1 CAT").pattern(0, words).runsOut();
        }
    }

    private static void stepsOfTheGreatestLimit() {
        Check.sentence("if the step count equals L, the whole match ends at once");
        SnobolMatcher m = Check.fresh();
        Limits.steps("L = 250", m, 250);
        m = new SnobolMatcher(16, 16, 8);
        Limits.steps("L = 16", m, 16);
        // Too many steps for any limit.
        Case.of(Case.FULL, "ARB ARB ARB FAIL CAT CAT CAT").runsOut().runsOutSearching();
        Case.of(Case.FULL, "ARB" + Postfix.times(14, "ARB CAT") + " FAIL CAT").runsOut();
    }

    private static void stepLimitIsReachedNotPassed() {
        Check.sentence("otherwise the count grows by 1 and the element is begun");
        for (int limit = 16; limit <= 30; limit++) {
            new Case("a", limit, 8).pattern(0, "LIT:a" + Postfix.times(limit - 1, "FENCE")).matches(1);
            new Case("a", limit, 8).pattern(0, "LIT:a" + Postfix.times(limit, "FENCE")).runsOut();
        }
    }

    private static void lastElementBegun() {
        Check.sentence("the whole match ends at once");
        // The element of the last step still has its outcome and its write; the one after it is not begun.
        new Case("abc", 16, 8).pattern(0, "CURSOR:0 CURSOR:1 CAT" + Postfix.times(13, "FENCE")).matches(0).cursor(0, 0).cursor(1, 0);
        new Case("abc", 16, 8).pattern(0, "CURSOR:0 CURSOR:1 CAT" + Postfix.times(14, "FENCE")).runsOut().cursor(0, 0).cursor(1, -1);
        // No way back is taken: neither the other alternative nor ARB's next outcome.
        String tooLong = "EMPTY" + Postfix.times(15, "FENCE");
        new Case("abc", 16, 8).pattern(0, tooLong + " CURSOR:2 ALT").runsOut().cursor(2, -1);
        new Case("abc", 16, 8).pattern(0, "ARB CURSOR:2 CAT " + tooLong + " CAT").runsOut().cursor(2, 0);
    }

    private static void noFurtherStart() {
        Check.sentence("(no further start is tried): R_OUT_OF_STEPS, start -1, end -1");
        // Start 0 fails, start 1 needs too many steps, start 2 would match.
        String words = "POS:1 EMPTY" + Postfix.times(13, "FENCE") + " CAT CURSOR:0 POS:2 CAT ALT";
        new Case("ab", 16, 8).pattern(0, words).fails().runsOutSearching().cursor(0, 0);
        new Case("ab", 17, 8).pattern(0, words).finds(1, 1);
        // Out of steps at the first start; the others would take fewer.
        String atZero = "POS:0 EMPTY" + Postfix.times(14, "FENCE") + " CAT EMPTY ALT";
        new Case("ab", 16, 8).pattern(0, atZero).runsOutSearching();
    }

    private static void stepsAreCountedForEachStart() {
        Check.sentence("For each start t: the step count is set to 0, then the root of v is begun at t with depth 0.");
        new Case(Case.FULL, 16, 8).pattern(0, "FAIL" + Postfix.times(15, "FENCE")).findsNone();
        new Case(Case.FULL, 16, 8).pattern(0, "RPOS:0" + Postfix.times(15, "FENCE")).finds(16, 16);
        Case.of(Case.FULL, "ARB ARB LIT:x CAT CAT").findsNone();
        // Also for each match: nothing is left over from the one before.
        Case c = new Case("ab", 16, 8).pattern(0, "LIT:b" + Postfix.times(15, "FENCE"));
        c.finds(1, 2).finds(1, 2).fails().finds(1, 2);
        // Depth 0 at every start: with a limit of one, the deferral works at the last start.
        new Case("aab", 250, 1).pattern(1, "LIT:b").pattern(0, "DEFER:1").finds(2, 3);
    }

    private static void triplesOnlyOnMatched() {
        Check.sentence("Triples are applied only on R_MATCHED.");
        Case.of("abc", "LEN:1 COND:0 FAIL CAT").fails().text(0, "").findsNone().text(0, "");
        new Case("abc", 16, 8).pattern(0, "LEN:1 COND:0 EMPTY" + Postfix.times(14, "FENCE") + " CAT").runsOut().text(0, "");
        // An earlier text stays.
        Case c = new Case("abc", 16, 8).pattern(0, "LEN:2 COND:0").matches(2).text(0, "ab");
        c.pattern(0, "LEN:1 COND:0 FAIL CAT").fails().text(0, "ab");
        c.pattern(0, "LEN:1 COND:0 EMPTY" + Postfix.times(14, "FENCE") + " CAT").runsOut().text(0, "ab");
    }

    private static void immediateWritesRemain() {
        Check.sentence("Immediate writes done before the end remain, whatever the result.");
        Case.of("abc", "LEN:2 IMM:0 CURSOR:1 CAT LEN:1 CAT").matches(3).text(0, "ab").cursor(1, 2);
        Case.of("abc", "LEN:2 IMM:0 CURSOR:1 CAT FAIL CAT").fails().text(0, "ab").cursor(1, 2);
        // CAT ARBNO RPOS, then CAT COND IMM LEN CURSOR ARBNO RPOS for each repetition.
        Case c = new Case("abcdefghij", 16, 8).pattern(0, "LEN:1 IMM:0 COND:1 CURSOR:2 CAT ARBNO RPOS:0 CAT");
        c.runsOutSearching().text(0, "b").text(1, "").cursor(2, 2);
    }

    private static void longLists() {
        Check.sentence("so a later triple for the same w wins");
        // 12 triples for each of 16 repetitions, near the greatest limit of steps.
        StringBuilder conds = new StringBuilder("LEN:1");
        for (int i = 0; i < 12; i++) {
            conds.append(" COND:").append(i % 8);
        }
        Case c = Case.of(Case.FULL, conds + " ARBNO RPOS:0 CAT").matches(16);
        for (int v = 0; v < 8; v++) {
            c.text(v, "f");
        }
        // With two more of them the steps run out.
        Case.of(Case.FULL, conds + " COND:0 COND:1 ARBNO RPOS:0 CAT").runsOut().text(0, "");
        // The whole pool as one chain.
        Case.of(Case.FULL, "LEN:2" + Postfix.times(31, "COND:5")).matches(2).text(5, "01");
    }
}
