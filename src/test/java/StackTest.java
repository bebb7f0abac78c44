/** Promises 8 (jaccard), 9 (edit), 10 (join), 11 (accept) and 12 (discard). */
public final class StackTest {
    private static final int[] NO_FIELDS = {-1, 2, 3, Integer.MIN_VALUE, Integer.MAX_VALUE};

    public static void main(String[] args) {
        jaccardArguments();
        editArguments();
        stackHoldsSix();
        joinNeedsTwo();
        joinReplacesTheTopmost();
        joinHoldsTwelve();
        joinRefusalKeepsTheParts();
        joinWeighsBothParts();
        acceptNeedsOne();
        acceptCounts();
        acceptNeedsDriven();
        drivenOfParts();
        acceptEmptiesTheStack();
        acceptReplacesTheRule();
        refusedAcceptKeepsRuleAndStack();
        discardTakesTheTopmost();
        stackLeavesTheRun();
        Check.end();
    }

    private static void jaccardArguments() {
        int[][] right = {{1, 1}, {1, 2}, {2, 2}, {1, 100}, {50, 100}, {99, 100}, {100, 100}};
        int[][] wrong = {{0, 1}, {0, 0}, {-1, 1}, {2, 1}, {100, 99}, {1, 101}, {101, 101}, {100, 101},
                {1, 0}, {1, -1}, {-2, -1}, {Integer.MIN_VALUE, 1}, {1, Integer.MAX_VALUE},
                {Integer.MAX_VALUE, Integer.MAX_VALUE}, {1, Integer.MIN_VALUE}};
        for (int[] pair : right) {
            for (int field = 0; field < 2; field++) {
                RecordMatcher x = new RecordMatcher();
                Check.acceptJaccard(x, field, pair[0], pair[1]);
            }
        }
        RecordMatcher x = new RecordMatcher();
        for (int[] pair : wrong) {
            for (int field = 0; field < 2; field++) {
                Check.due("jaccard(" + field + ", " + pair[0] + ", " + pair[1] + ")",
                        x.jaccard(field, pair[0], pair[1]), false);
            }
        }
        for (int field : NO_FIELDS) {
            Check.due("jaccard(" + field + ", 1, 1)", x.jaccard(field, 1, 1), false);
        }
        Check.due("discard() after refusals", x.discard(), false);
    }

    private static void editArguments() {
        RecordMatcher x = new RecordMatcher();
        for (int d = 0; d <= 8; d++) {
            for (int field = 0; field < 2; field++) {
                Check.due("edit(" + field + ", " + d + ")", x.edit(field, d), true);
                Check.due("discard()", x.discard(), true);
            }
        }
        int[] wrong = {-1, -8, 9, 10, 12, Integer.MIN_VALUE, Integer.MAX_VALUE};
        for (int d : wrong) {
            Check.due("edit(0, " + d + ")", x.edit(0, d), false);
            Check.due("edit(1, " + d + ")", x.edit(1, d), false);
        }
        for (int field : NO_FIELDS) {
            Check.due("edit(" + field + ", 0)", x.edit(field, 0), false);
        }
        Check.due("discard() after refusals", x.discard(), false);
    }

    private static void stackHoldsSix() {
        RecordMatcher x = new RecordMatcher();
        for (int i = 0; i < 6; i++) {
            Check.due("push " + i, i % 2 == 0 ? x.jaccard(0, 1, 1) : x.edit(0, 0), true);
        }
        Check.due("jaccard(0, 1, 1) as the 7th", x.jaccard(0, 1, 1), false);
        Check.due("edit(0, 0) as the 7th", x.edit(0, 0), false);
        Check.due("join(true) of six", x.join(true), true);
        Check.due("jaccard(0, 1, 1) as the 6th", x.jaccard(0, 1, 1), true);
        Check.due("edit(0, 0) as the 7th", x.edit(0, 0), false);
        Check.due("discard()", x.discard(), true);
        Check.due("edit(0, 0) as the 6th", x.edit(0, 0), true);
        Check.due("jaccard(1, 1, 1) as the 7th", x.jaccard(1, 1, 1), false);
        for (int i = 0; i < 6; i++) {
            Check.due("discard() " + i, x.discard(), true);
        }
        Check.due("discard() of an empty stack", x.discard(), false);
    }

    private static void joinNeedsTwo() {
        RecordMatcher x = new RecordMatcher();
        Check.due("join(true) of none", x.join(true), false);
        Check.due("jaccard(0, 1, 1)", x.jaccard(0, 1, 1), true);
        Check.due("join(true) of one", x.join(true), false);
        Check.due("join(false) of one", x.join(false), false);
        Check.due("jaccard(1, 1, 1)", x.jaccard(1, 1, 1), true);
        Check.due("join(false) of two", x.join(false), true);
        Check.due("join(false) of one", x.join(false), false);
        Check.due("accept()", x.accept(), 2);
    }

    /** Below the two topmost ones a third stays, so that discard leaves it alone. */
    private static void joinReplacesTheTopmost() {
        RecordMatcher x = Check.withTexts("a", "a", "b");
        Check.due("jaccard(0, 1, 1)", x.jaccard(0, 1, 1), true);
        Check.due("jaccard(1, 1, 1)", x.jaccard(1, 1, 1), true);
        Check.due("edit(1, 0)", x.edit(1, 0), true);
        Check.due("join(true)", x.join(true), true);
        Check.due("accept() of two", x.accept(), RecordMatcher.BAD);
        Check.due("discard()", x.discard(), true);
        Check.due("accept()", x.accept(), 1);
        Check.due("similar(0, 1)", x.similar(0, 1), 1);
        Check.due("similar(0, 2)", x.similar(0, 2), 0);
    }

    /** Puts an expression of so many JACCARDs on the stack. */
    private static void chain(RecordMatcher x, int comparisons) {
        Check.due("jaccard(0, 1, 1)", x.jaccard(0, 1, 1), true);
        for (int i = 1; i < comparisons; i++) {
            Check.due("jaccard(0, 1, 1)", x.jaccard(0, 1, 1), true);
            Check.due("join to " + (i + 1), x.join(i % 2 == 0), true);
        }
    }

    private static void joinHoldsTwelve() {
        RecordMatcher x = new RecordMatcher();
        chain(x, 12);
        Check.due("edit(0, 0)", x.edit(0, 0), true);
        Check.due("join(true) to 13", x.join(true), false);
        Check.due("join(false) to 13", x.join(false), false);
        Check.due("discard()", x.discard(), true);
        Check.due("accept() of 12", x.accept(), 12);
    }

    private static void joinRefusalKeepsTheParts() {
        RecordMatcher x = new RecordMatcher();
        chain(x, 7);
        chain(x, 6);
        Check.due("join(true) to 13", x.join(true), false);
        Check.due("accept() of two", x.accept(), RecordMatcher.BAD);
        Check.due("discard()", x.discard(), true);
        Check.due("accept() of 7", x.accept(), 7);
        chain(x, 6);
        chain(x, 6);
        Check.due("join(false) to 12", x.join(false), true);
        Check.due("accept() of 12", x.accept(), 12);
        chain(x, 1);
        chain(x, 12);
        Check.due("join(true) to 13", x.join(true), false);
        Check.due("discard()", x.discard(), true);
        Check.due("accept() of 1", x.accept(), 1);
    }

    private static void joinWeighsBothParts() {
        for (int low = 1; low <= 12; low++) {
            for (int high = 1; high <= 12; high++) {
                RecordMatcher x = new RecordMatcher();
                chain(x, low);
                chain(x, high);
                boolean fits = low + high <= 12;
                Check.due("join of " + low + " and " + high, x.join(true), fits);
                Check.due("accept() then", x.accept(), fits ? low + high : RecordMatcher.BAD);
            }
        }
    }

    private static void acceptNeedsOne() {
        RecordMatcher x = new RecordMatcher();
        Check.due("accept() of none", x.accept(), RecordMatcher.BAD);
        Check.due("jaccard(0, 1, 1)", x.jaccard(0, 1, 1), true);
        Check.due("jaccard(1, 1, 1)", x.jaccard(1, 1, 1), true);
        Check.due("accept() of two", x.accept(), RecordMatcher.BAD);
        Check.due("similar(0, 1)", x.similar(0, 1), RecordMatcher.NONE);
        Check.due("jaccard(1, 1, 1)", x.jaccard(1, 1, 1), true);
        Check.due("accept() of three", x.accept(), RecordMatcher.BAD);
        Check.due("discard()", x.discard(), true);
        Check.due("discard()", x.discard(), true);
        Check.due("accept() of one", x.accept(), 1);
        Check.due("edit(0, 0)", x.edit(0, 0), true);
        Check.due("edit(0, 0)", x.edit(0, 0), true);
        Check.due("accept() of two that are not driven", x.accept(), RecordMatcher.BAD);
    }

    private static void acceptCounts() {
        for (int n = 1; n <= 12; n++) {
            RecordMatcher x = new RecordMatcher();
            chain(x, n);
            Check.due("accept() of " + n, x.accept(), n);
        }
    }

    private static void acceptNeedsDriven() {
        RecordMatcher x = new RecordMatcher();
        Check.due("edit(0, 0)", x.edit(0, 0), true);
        Check.due("accept() of an EDIT", x.accept(), RecordMatcher.UNDRIVEN);
        Check.due("accept() of an EDIT again", x.accept(), RecordMatcher.UNDRIVEN);
        Check.due("similar(0, 1)", x.similar(0, 1), RecordMatcher.NONE);
        Check.due("start(1)", x.start(1), RecordMatcher.NONE);
        Check.due("jaccard(0, 1, 1)", x.jaccard(0, 1, 1), true);
        Check.due("join(true)", x.join(true), true);
        Check.due("accept() of EDIT and JACCARD", x.accept(), 2);
    }

    /** J and E are leaves, & and | join the two topmost: all in the order of the calls. */
    private static void driven(String calls, boolean driven) {
        RecordMatcher x = new RecordMatcher();
        int comparisons = 0;
        for (int i = 0; i < calls.length(); i++) {
            char call = calls.charAt(i);
            if (call == 'J' || call == 'E') {
                comparisons++;
                Check.due(calls + " " + i, call == 'J' ? x.jaccard(0, 1, 2) : x.edit(1, 2), true);
            } else {
                Check.due(calls + " " + i, x.join(call == '&'), true);
            }
        }
        Check.due("accept() of " + calls, x.accept(), driven ? comparisons : RecordMatcher.UNDRIVEN);
    }

    private static void drivenOfParts() {
        driven("J", true);
        driven("E", false);
        driven("JJ&", true);
        driven("JE&", true);
        driven("EJ&", true);
        driven("EE&", false);
        driven("JJ|", true);
        driven("JE|", false);
        driven("EJ|", false);
        driven("EE|", false);
        driven("JE&E|", false);
        driven("JE&J|", true);
        driven("JE|E&", false);
        driven("JE|J&", true);
        driven("EJ&JE&|", true);
        driven("EJ|JE|&", false);
        driven("EE|J&EJ&|", true);
        driven("EE&JJ||", false);
    }

    private static void acceptEmptiesTheStack() {
        RecordMatcher x = new RecordMatcher();
        Check.acceptJaccard(x, 0, 1, 1);
        Check.due("discard() after accept", x.discard(), false);
        Check.due("accept() after accept", x.accept(), RecordMatcher.BAD);
        for (int i = 0; i < 6; i++) {
            Check.due("edit(0, 0) " + i, x.edit(0, 0), true);
        }
        Check.due("edit(0, 0) as the 7th", x.edit(0, 0), false);
    }

    private static void acceptReplacesTheRule() {
        RecordMatcher x = new RecordMatcher();
        Check.add(x, 0, "a", "b");
        Check.add(x, 1, "a", "c");
        Check.add(x, 2, "d", "b");
        Check.acceptJaccard(x, 0, 1, 1);
        Check.due("similar(0, 1)", x.similar(0, 1), 1);
        Check.due("similar(0, 2)", x.similar(0, 2), 0);
        Check.due("start(1)", x.start(1), 3);
        Check.acceptJaccard(x, 1, 1, 1);
        Check.due("pairs() after accept", x.pairs(), RecordMatcher.NONE);
        Check.due("similar(0, 1)", x.similar(0, 1), 0);
        Check.due("similar(0, 2)", x.similar(0, 2), 1);
    }

    private static void refusedAcceptKeepsRuleAndStack() {
        RecordMatcher x = Check.withTexts("a", "a", "b");
        Check.acceptJaccard(x, 0, 1, 1);
        Check.runAll(x, 1);
        Check.due("accept() of none", x.accept(), RecordMatcher.BAD);
        Check.due("pairs() after BAD", x.pairs(), 1);
        Check.due("edit(0, 8)", x.edit(0, 8), true);
        Check.due("accept() of an EDIT", x.accept(), RecordMatcher.UNDRIVEN);
        Check.due("pairs() after UNDRIVEN", x.pairs(), 1);
        Check.due("similar(0, 1) after UNDRIVEN", x.similar(0, 1), 1);
        Check.due("similar(0, 2) after UNDRIVEN", x.similar(0, 2), 0);
        Check.due("jaccard(0, 1, 1)", x.jaccard(0, 1, 1), true);
        Check.due("accept() of two", x.accept(), RecordMatcher.BAD);
        Check.due("pairs() after BAD", x.pairs(), 1);
        Check.due("join(true)", x.join(true), true);
        Check.due("accept()", x.accept(), 2);
        Check.due("pairs() after accept", x.pairs(), RecordMatcher.NONE);
    }

    private static void discardTakesTheTopmost() {
        RecordMatcher x = new RecordMatcher();
        Check.due("discard() of none", x.discard(), false);
        Check.add(x, 0, "a", "b");
        Check.add(x, 1, "a", "c");
        Check.due("jaccard(0, 1, 1)", x.jaccard(0, 1, 1), true);
        Check.due("jaccard(1, 1, 1)", x.jaccard(1, 1, 1), true);
        Check.due("discard()", x.discard(), true);
        Check.due("accept()", x.accept(), 1);
        Check.due("similar(0, 1)", x.similar(0, 1), 1);
        Check.due("discard() after accept", x.discard(), false);
        Check.due("similar(0, 1) after discard", x.similar(0, 1), 1);
    }

    private static void stackLeavesTheRun() {
        RecordMatcher x = Check.withTexts("a", "a");
        Check.acceptJaccard(x, 0, 1, 1);
        Check.runAll(x, 1);
        Check.due("jaccard(0, 1, 1)", x.jaccard(0, 1, 1), true);
        Check.due("edit(0, 1)", x.edit(0, 1), true);
        Check.due("join(false)", x.join(false), true);
        Check.due("pairs()", x.pairs(), 1);
        Check.due("discard()", x.discard(), true);
        Check.due("pairs()", x.pairs(), 1);
        Check.due("cluster(1)", x.cluster(1), 0);
    }
}
