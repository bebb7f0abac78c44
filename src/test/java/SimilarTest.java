/** Promise 13 (similar), with what the expressions of the terms mean. */
public final class SimilarTest {
    public static void main(String[] args) {
        jaccards();
        jaccardAtItsEdge();
        edits();
        editAtItsEdge();
        fieldsAreApart();
        joins();
        nestedJoins();
        refusals();
        rulesLookAtLaterRecords();
        Check.end();
    }

    private static void both(RecordMatcher x, String rule, int want) {
        Check.due("similar(0, 1) of " + rule, x.similar(0, 1), want);
        Check.due("similar(1, 0) of " + rule, x.similar(1, 0), want);
    }

    /** Whether a JACCARD holds of two texts, in field 0 and in field 1, in either order. */
    private static void jaccard(String a, String b, int num, int den, boolean want) {
        String rule = "JACCARD " + num + "/" + den + " of '" + a + "', '" + b + "'";
        for (int field = 0; field < 2; field++) {
            RecordMatcher x = new RecordMatcher();
            Check.add(x, 0, field == 0 ? a : "s" + 0, field == 0 ? "s" + 0 : a);
            Check.add(x, 1, field == 0 ? b : "s" + 1, field == 0 ? "s" + 1 : b);
            Check.acceptJaccard(x, field, num, den);
            both(x, rule, want ? 1 : 0);
        }
    }

    private static void jaccards() {
        jaccard("", "", 1, 100, false);
        jaccard("...", " ", 1, 1, false);
        jaccard("a", "", 1, 100, false);
        jaccard("a", "a", 1, 1, true);
        jaccard("a", "a", 100, 100, true);
        jaccard("a", "b", 1, 100, false);
        jaccard("A-b", "b/a", 1, 1, true);
        jaccard("a a a", "A", 1, 1, true);
        jaccard("a a b", "a", 1, 2, true);
        jaccard("a a b", "a", 51, 100, false);
        jaccard("a b b b", "a b", 1, 1, true);
        jaccard("ab", "a b", 1, 100, false);
        jaccard("abc", "ab", 1, 100, false);
        jaccard("ab abc", "abc a", 1, 3, true);
        jaccard("ab abc", "abc a", 34, 100, false);
        jaccard("a b c d e f", "f e d c b a", 1, 1, true);
        jaccard("a b c d e f", "g h i j k l", 1, 100, false);
        jaccard("a b c d e f", "f g h i j k", 1, 11, true);
        jaccard("a b c d e f", "f g h i j k", 10, 100, false);
        jaccard("a b c d e f", "f g h i j k", 9, 100, true);
        jaccard("abcdefghijkl", "ABCDEFGHIJKL", 1, 1, true);
        jaccard("abcdefghijkl", "abcdefghijkm", 1, 100, false);
        jaccard("1 2 3", "3 4 1", 1, 2, true);
        jaccard("1 2 3", "3 4 1", 51, 100, false);
    }

    /** For each b and e: all of num / 100 just up to b / e. */
    private static void jaccardAtItsEdge() {
        String letters = "abcdefghijklm";
        for (int first = 1; first <= 6; first++) {
            for (int shared = 0; shared <= first; shared++) {
                String a = blanksBetween(letters.substring(0, first));
                String b = blanksBetween(letters.substring(first - shared, first - shared + 6));
                int either = first + 6 - shared;
                RecordMatcher x = Check.withTexts(a, b);
                for (int num = 1; num <= 100; num += 1 + num / 3) {
                    Check.acceptJaccard(x, 0, num, 100);
                    both(x, num + "/100 with " + shared + " of " + either,
                            shared * 100 >= num * either ? 1 : 0);
                }
                if (shared > 0) {
                    Check.acceptJaccard(x, 0, shared, either);
                    both(x, "exactly " + shared + " of " + either, 1);
                }
            }
        }
    }

    private static String blanksBetween(String letters) {
        return String.join(" ", letters.split(""));
    }

    /** A rule that holds just when the EDIT does: both records have the word k in the other field. */
    private static void acceptEdit(RecordMatcher x, int field, int d) {
        Check.due("jaccard(" + (1 - field) + ", 1, 1)", x.jaccard(1 - field, 1, 1), true);
        Check.due("edit(" + field + ", " + d + ")", x.edit(field, d), true);
        Check.due("join(true)", x.join(true), true);
        Check.due("accept()", x.accept(), 2);
    }

    /** Two texts that so many steps, and no fewer, make the same. */
    private static void edit(String a, String b, int steps) {
        for (int field = 0; field < 2; field++) {
            RecordMatcher x = new RecordMatcher();
            Check.add(x, 0, field == 0 ? a : "k", field == 0 ? "k" : a);
            Check.add(x, 1, field == 0 ? b : "k", field == 0 ? "k" : b);
            for (int d = 0; d <= 8; d++) {
                acceptEdit(x, field, d);
                both(x, "EDIT " + d + " of '" + a + "', '" + b + "'", steps <= d ? 1 : 0);
            }
        }
    }

    private static void edits() {
        edit("", "", 0);
        edit("--", "", 0);
        edit("a", "", 1);
        edit("", "abc", 3);
        edit("abc", "abc", 0);
        edit("ABC", "abc", 0);
        edit("a--b", "-a b", 0);
        edit("a b", "ab", 1);
        edit("a b", "a c", 1);
        edit("ab", "ba", 2);
        edit("a b", "b a", 2);
        edit("john", "jon", 1);
        edit("john", "joan", 1);
        edit("jon", "joan", 1);
        edit("kitten", "sitting", 3);
        edit("saturday", "sunday", 3);
        edit("intention", "execution", 5);
        edit("abcdef", "bcdefa", 2);
        edit("abcabc", "cabcab", 2);
        edit("xabc", "abcx", 2);
        edit("aaaa", "aa", 2);
        edit("abab", "baba", 2);
        edit("a b c d e f", "f e d c b a", 6);
        edit("abcdefgh", "ijklmnop", 8);
        edit("abcdefghi", "jklmnopqr", 9);
        edit("abcdefghijkl", "mnopqrstuvwx", 12);
        edit("abcdefghijkl", "bcdefghijklm", 2);
        edit("abcdefghijkl", "", 12);
        edit("abcdefgh", "", 8);
        edit("abcdefghijkl", "abcd", 8);
        edit("abcdefghijkl", "ijkl", 8);
        edit("abcdefghijkl", "jkl", 9);
        edit("abcdefghijkl", "aceg", 8);
    }

    private static void editAtItsEdge() {
        String text = "abcdefghijkl";
        for (int steps = 0; steps <= 8; steps++) {
            edit(text, text.substring(steps), steps);
            edit(text, text.substring(0, 12 - steps), steps);
            edit(text, "123456789012".substring(0, steps) + text.substring(steps), steps);
            edit("ab" + text.substring(4), "ab" + "12345678".substring(0, steps)
                    + text.substring(4 + steps), steps);
        }
    }

    private static void fieldsAreApart() {
        RecordMatcher x = new RecordMatcher();
        Check.add(x, 0, "a", "b");
        Check.add(x, 1, "b", "a");
        Check.acceptJaccard(x, 0, 1, 100);
        both(x, "JACCARD of field 0", 0);
        Check.acceptJaccard(x, 1, 1, 100);
        both(x, "JACCARD of field 1", 0);
        RecordMatcher y = new RecordMatcher();
        Check.add(y, 0, "k same", "one");
        Check.add(y, 1, "k same", "two");
        for (int field = 0; field < 2; field++) {
            Check.due("jaccard(0, 1, 1)", y.jaccard(0, 1, 1), true);
            Check.due("edit(" + field + ", 0)", y.edit(field, 0), true);
            Check.due("join(true)", y.join(true), true);
            Check.due("accept()", y.accept(), 2);
            both(y, "EDIT of field " + field, field == 0 ? 1 : 0);
        }
    }

    /** Field 0 decides the one JACCARD, field 1 the other one. */
    private static void joins() {
        for (int held = 0; held < 4; held++) {
            boolean first = (held & 1) != 0;
            boolean second = (held & 2) != 0;
            RecordMatcher x = new RecordMatcher();
            Check.add(x, 0, "a", "b");
            Check.add(x, 1, first ? "a" : "c", second ? "b" : "c");
            for (int top = 0; top < 2; top++) {
                for (int all = 0; all < 2; all++) {
                    Check.due("jaccard", x.jaccard(1 - top, 1, 1), true);
                    Check.due("jaccard", x.jaccard(top, 1, 1), true);
                    Check.due("join", x.join(all == 1), true);
                    Check.due("accept()", x.accept(), 2);
                    boolean want = all == 1 ? first && second : first || second;
                    both(x, (all == 1 ? "AND of " : "OR of ") + first + ", " + second, want ? 1 : 0);
                }
            }
        }
    }

    /** Twelve comparisons in a row: an AND of all is broken, an OR of all is saved, by any one. */
    private static void nestedJoins() {
        for (int odd = -1; odd < 12; odd++) {
            for (int all = 0; all < 2; all++) {
                RecordMatcher x = new RecordMatcher();
                Check.add(x, 0, "a", all == 1 ? "a" : "b");
                Check.add(x, 1, all == 1 ? "b" : "a", "a");
                for (int i = 0; i < 12; i++) {
                    Check.due("jaccard", x.jaccard(i == odd ? 0 : 1, 1, 1), true);
                    if (i > 0) {
                        Check.due("join", x.join(all == 1), true);
                    }
                }
                Check.due("accept()", x.accept(), 12);
                // In field 1 the records are alike when all is 1 and unlike when it is 0.
                boolean alike = all == 1;
                both(x, "12 with odd one " + odd, (odd < 0) == alike ? 1 : 0);
            }
        }
        groups(true);
        groups(false);
    }

    /** What was joined first is one part of what is joined then. */
    private static void groups(boolean rightGroup) {
        RecordMatcher x = new RecordMatcher();
        Check.add(x, 0, "a", "b");
        Check.add(x, 1, "c", "b");
        // Field 0 is unlike, field 1 alike: F and (F or T) is not (F and F) or T.
        Check.due("jaccard", x.jaccard(0, 1, 1), true);
        Check.due("jaccard", x.jaccard(0, 1, 1), true);
        if (!rightGroup) {
            Check.due("join", x.join(true), true);
        }
        Check.due("jaccard", x.jaccard(1, 1, 1), true);
        Check.due("join", x.join(false), true);
        if (rightGroup) {
            Check.due("join", x.join(true), true);
        }
        Check.due("accept()", x.accept(), 3);
        both(x, rightGroup ? "F and (F or T)" : "(F and F) or T", rightGroup ? 0 : 1);
    }

    private static void refusals() {
        RecordMatcher x = Check.withTexts("a", "a", "a");
        Check.due("similar(0, 1) without a rule", x.similar(0, 1), RecordMatcher.NONE);
        Check.due("similar(0, 0) without a rule", x.similar(0, 0), RecordMatcher.NONE);
        Check.due("similar(0, 3) without a rule", x.similar(0, 3), RecordMatcher.NONE);
        Check.due("jaccard(0, 1, 1)", x.jaccard(0, 1, 1), true);
        Check.due("similar(0, 1) before accept", x.similar(0, 1), RecordMatcher.NONE);
        Check.due("accept()", x.accept(), 1);
        int[] none = {-1, 3, 4, 11, 12, 13, Integer.MIN_VALUE, Integer.MAX_VALUE};
        for (int record : none) {
            Check.due("similar(0, " + record + ")", x.similar(0, record), RecordMatcher.BAD);
            Check.due("similar(" + record + ", 0)", x.similar(record, 0), RecordMatcher.BAD);
            Check.due("similar(" + record + ", " + record + ")", x.similar(record, record),
                    RecordMatcher.BAD);
        }
        for (int r = 0; r < 3; r++) {
            Check.due("similar(" + r + ", " + r + ")", x.similar(r, r), RecordMatcher.BAD);
        }
        Check.due("similar(0, 2)", x.similar(0, 2), 1);
        Check.due("similar(2, 1)", x.similar(2, 1), 1);
    }

    private static void rulesLookAtLaterRecords() {
        RecordMatcher x = new RecordMatcher();
        Check.acceptJaccard(x, 0, 1, 2);
        Check.add(x, 0, "a b", "");
        Check.due("similar(0, 1)", x.similar(0, 1), RecordMatcher.BAD);
        Check.add(x, 1, "b", "");
        both(x, "a rule from before", 1);
        Check.due("start(1)", x.start(1), 2);
        both(x, "a rule while a run goes on", 1);
    }
}
