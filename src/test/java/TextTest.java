/** Promises 5 (words), 6 (length) and 7 (unit). */
public final class TextTest {
    private static final int[] NO_FIELDS = {-1, 2, 3, Integer.MIN_VALUE, Integer.MAX_VALUE};

    public static void main(String[] args) {
        normalTexts();
        everyCode();
        wordSets();
        refusals();
        Check.end();
    }

    private static void text(String typed, String normal, int words) {
        RecordMatcher x = new RecordMatcher();
        Check.add(x, 0, typed, "");
        Check.add(x, 1, "other", typed);
        Check.normalText(x, 0, 0, normal);
        Check.normalText(x, 1, 1, normal);
        Check.normalText(x, 0, 1, "");
        Check.normalText(x, 1, 0, "other");
        Check.due("words(0, 0) of '" + typed + "'", x.words(0, 0), words);
        Check.due("words(1, 1) of '" + typed + "'", x.words(1, 1), words);
        Check.due("words(0, 1) of an empty text", x.words(0, 1), 0);
    }

    private static void normalTexts() {
        text("", "", 0);
        text("a", "a", 1);
        text(" ", "", 0);
        text("-.,;", "", 0);
        text("Ann  Lee-3", "ann lee 3", 3);
        text("  ann", "ann", 1);
        text("ann  ", "ann", 1);
        text("-a-b-", "a b", 2);
        text("R2D2", "r2d2", 1);
        text("ABCDEFGHIJKL", "abcdefghijkl", 1);
        text("MNOPQRSTUVWX", "mnopqrstuvwx", 1);
        text("YZyz0123456", "yzyz0123456", 1);
        text("7,8:9", "7 8 9", 3);
        text("a b c d e f", "a b c d e f", 6);
        text(" a b c d e f", "a b c d e f", 6);
        text("a b c d e f ", "a b c d e f", 6);
        text("a          b", "a b", 2);
        text("it's", "it s", 2);
        text("a_b", "a b", 2);
        text("a\u0000b", "a b", 2);
        text("a\tb\nc", "a b c", 3);
        text("\u00c4b\u00e4", "b", 1);
    }

    private static void everyCode() {
        for (int code = 0; code <= 255; code++) {
            RecordMatcher x = new RecordMatcher();
            Check.add(x, 0, "x" + (char) code + "y", "" + (char) code);
            boolean small = code >= 'a' && code <= 'z' || code >= '0' && code <= '9';
            boolean capital = code >= 'A' && code <= 'Z';
            int shown = capital ? code + 32 : small ? code : 32;
            Check.due("unit(0, 0, 1) of code " + code, x.unit(0, 0, 1), shown);
            Check.due("unit(0, 0, 2) of code " + code, x.unit(0, 0, 2), 'y');
            Check.due("length(0, 0) of code " + code, x.length(0, 0), 3);
            Check.due("words(0, 0) of code " + code, x.words(0, 0), shown == 32 ? 2 : 1);
            Check.due("length(0, 1) of code " + code, x.length(0, 1), shown == 32 ? 0 : 1);
            Check.due("words(0, 1) of code " + code, x.words(0, 1), shown == 32 ? 0 : 1);
        }
    }

    private static void wordSets() {
        text("ann ANN", "ann ann", 1);
        text("ann Ann aNN", "ann ann ann", 1);
        text("a b a b a b", "a b a b a b", 2);
        text("a a b b c c", "a a b b c c", 3);
        text("ab a abc", "ab a abc", 3);
        text("a ab", "a ab", 2);
        text("ab a", "ab a", 2);
        text("ab b ba ab", "ab b ba ab", 3);
        text("ab cd ab-cd", "ab cd ab cd", 2);
        text("1 01 10 1", "1 01 10 1", 3);
    }

    private static void refusals() {
        RecordMatcher x = new RecordMatcher();
        Check.add(x, 0, "a b", "c");
        Check.add(x, 1, "d", "e f g");
        int[] noRecords = {-1, 2, 3, 11, 12, 13, Integer.MIN_VALUE, Integer.MAX_VALUE};
        for (int record : noRecords) {
            for (int field = 0; field < 2; field++) {
                bad(x, record, field);
            }
            bad(x, record, -1);
        }
        for (int field : NO_FIELDS) {
            bad(x, 0, field);
            bad(x, 1, field);
        }
        int[] noPlaces = {-1, 3, 4, 11, 12, 13, Integer.MIN_VALUE, Integer.MAX_VALUE};
        for (int i : noPlaces) {
            Check.due("unit(0, 0, " + i + ")", x.unit(0, 0, i), RecordMatcher.BAD);
        }
        Check.due("words(0, 0)", x.words(0, 0), 2);
        Check.due("words(1, 1)", x.words(1, 1), 3);
        Check.normalText(x, 0, 1, "c");
        Check.normalText(x, 1, 0, "d");
    }

    private static void bad(RecordMatcher x, int record, int field) {
        String place = record + ", " + field;
        Check.due("words(" + place + ")", x.words(record, field), RecordMatcher.BAD);
        Check.due("length(" + place + ")", x.length(record, field), RecordMatcher.BAD);
        Check.due("unit(" + place + ", 0)", x.unit(record, field, 0), RecordMatcher.BAD);
    }
}
