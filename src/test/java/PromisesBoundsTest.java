/** Promises 1 to 21: each sentence that names a bound, on both of its sides. */
public final class PromisesBoundsTest {
    private static final Object[] NO_FIELDS = {"-1", "2", "3", "MIN", "MAX"};
    /** With three records: the first one before them, the first one behind, and farther ones. */
    private static final Object[] NO_RECORDS_OF_THREE = {"-1", "3", "4", "11", "12", "13", "MIN", "MAX"};

    public static void main(String[] args) {
        newObject();
        type();
        add();
        records();
        words();
        length();
        unit();
        jaccard();
        edit();
        join();
        accept();
        discard();
        similar();
        start();
        work();
        crash();
        pairs();
        found();
        cluster();
        keep();
        kept();
        Check.end();
    }

    private static void newObject() {
        Talk.of("Promise 1: 'No records'", """
                records = 0; words 0 0 = BAD; length 0 0 = BAD; unit 0 0 0 = BAD; add = 0
                """);
        Talk.of("Promise 1: 'an empty draft'", """
                add = 0; length 0 0 = 0; length 0 1 = 0; words 0 0 = 0; words 0 1 = 0
                """);
        Talk.more("12x type 0 45 = true; type 0 45 = false; 12x type 1 45 = true; type 1 45 = false");
        Talk.of("Promise 1: an empty 'stack'", "discard = false");
        Talk.more("join true = false; join false = false; accept = BAD; discard = false");
        Talk.more("jaccard 0 1 1; join true = false; accept = 1");
        Talk.more("6x edit 0 0 = true; edit 0 0 = false");
        Talk.of("Promise 1: 'no rule'", "2x add; similar 0 1 = NONE; start 1 = NONE");
    }

    private static void type() {
        Talk.of("Promise 2: 'Appends a character to a field of the DRAFT: true'", """
                type 0 'ab' = true; type 1 'xy' = true; type 0 'c' = true; type 1 'z' = true; add
                length 0 0 = 3; unit 0 0 0 = 97; unit 0 0 1 = 98; unit 0 0 2 = 99
                length 0 1 = 3; unit 0 1 0 = 120; unit 0 1 1 = 121; unit 0 1 2 = 122
                """);
        Talk.of("Promise 2: 'false when there is no such field'",
                Talk.each("type # 'a' = false", NO_FIELDS), "type 0 'a' = true; type 1 'a' = true");
        Talk.of("Promise 2: false when 'its code is above 255'", """
                type 0 255 = true; type 0 256 = false; type 0 65535 = false
                type 1 255 = true; type 1 256 = false; type 1 65535 = false
                """);
        Talk.of("Promise 2: false when 'the draft's field has 12 characters'", """
                11x type 0 'a' = true; type 0 'l' = true; type 0 'm' = false; type 0 'm' = false
                11x type 1 ' ' = true; type 1 ' ' = true; type 1 ' ' = false; type 1 'm' = false
                add; length 0 0 = 12; unit 0 0 11 = 108; length 0 1 = 0
                12x type 1 'a' = true; type 1 'm' = false; type 0 'b' = true
                add; length 1 0 = 1; length 1 1 = 12
                """);
        Talk.more("12x add; 12x type 0 'a' = true; type 0 'a' = false; 12x type 1 'a' = true; type 1 'a' = false");
    }

    private static void add() {
        Talk.of("Promise 3: 'The draft becomes a record'", """
                type 0 'ab'; type 1 'c d'; words 0 0 = BAD; add = 0
                length 0 0 = 2; unit 0 0 0 = 97; unit 0 0 1 = 98; words 0 1 = 2; length 0 1 = 3
                """);
        Talk.of("Promise 3: 'and is empty then'", """
                type 0 'abcdefghijkl'; type 1 'abcdefghijkl'; add; add = 1
                length 1 0 = 0; length 1 1 = 0; words 1 0 = 0; words 1 1 = 0
                12x type 0 'x' = true; type 0 'x' = false; 12x type 1 'y' = true; type 1 'y' = false
                add = 2; unit 2 0 11 = 120; unit 2 1 11 = 121; unit 0 0 0 = 97; length 1 0 = 0
                type 0 'a'; add; type 0 'b'; add; unit 4 0 0 = 98; length 4 0 = 1; words 4 0 = 1
                """);
        Talk.of("Promise 3: 'Answers the record's number'", """
                add = 0; add = 1; add = 2; add = 3; add = 4; add = 5; add = 6; add = 7; add = 8; add = 9
                add = 10; add = 11
                """);
        Talk.of("Promise 3: 'FULL when there are 12'", """
                11x add; add = 11; add = FULL; add = FULL; records = 12
                type 0 'abcdefghijk'; add = FULL; type 0 'l' = true; type 0 'm' = false; add = FULL
                length 11 0 = 0; length 12 0 = BAD
                """);
    }

    private static void records() {
        Talk.of("Promise 4: 'How many records there are'", """
                records = 0; type 0 'a'; records = 0; add; records = 1; add; records = 2
                9x add; records = 11; add; records = 12; add = FULL; records = 12
                """);
    }

    private static void words() {
        Talk.of("Promise 5: 'How many words the word set of a record's field has'",
                Talk.record("", "-"), Talk.record("a", "a A"), Talk.record("a b c d e f", "f f f f f f"), """
                words 0 0 = 0; words 0 1 = 0; words 1 0 = 1; words 1 1 = 1; words 2 0 = 6; words 2 1 = 1
                """);
        Talk.of("Promise 5: 'BAD when there is no such record'", "words 0 0 = BAD; words 0 1 = BAD",
                Talk.records("a", "a", "a"), Talk.each("words # 0 = BAD; words # 1 = BAD", NO_RECORDS_OF_THREE),
                "type 0 'b'; words 3 0 = BAD; add; words 3 0 = 1; words 0 0 = 1; words 2 0 = 1");
        Talk.more("12x add; words 11 0 = 0; words 12 0 = BAD; words -1 0 = BAD");
        Talk.of("Promise 5: BAD when there is no such 'field'", Talk.record("a", "a b"),
                Talk.each("words 0 # = BAD", NO_FIELDS), "words 0 0 = 1; words 0 1 = 2");
    }

    private static void length() {
        Talk.of("Promise 6: 'How many characters the normal text of a record's field has'",
                Talk.record("", "------------"), Talk.record("a", "-----a------"),
                Talk.record("abcdefghijkl", "a b c d e f "), """
                length 0 0 = 0; length 0 1 = 0; length 1 0 = 1; length 1 1 = 1; length 2 0 = 12; length 2 1 = 11
                """);
        Talk.of("Promise 6: 'BAD when there is no such record'", "length 0 0 = BAD; length 0 1 = BAD",
                Talk.records("a", "a", "a"), Talk.each("length # 0 = BAD; length # 1 = BAD", NO_RECORDS_OF_THREE),
                "type 0 'b'; length 3 0 = BAD; add; length 3 0 = 1; length 0 0 = 1; length 2 0 = 1");
        Talk.more("12x add; length 11 0 = 0; length 12 0 = BAD; length -1 0 = BAD");
        Talk.of("Promise 6: BAD when there is no such 'field'", Talk.record("a", "a b"),
                Talk.each("length 0 # = BAD", NO_FIELDS), "length 0 0 = 1; length 0 1 = 3");
    }

    private static void unit() {
        Talk.of("Promise 7: 'The code of character i (from 0) of that normal text'",
                Talk.record("abcdefghijkl", "--Z, 9------"), """
                unit 0 0 0 = 97; unit 0 0 1 = 98; unit 0 0 10 = 107; unit 0 0 11 = 108
                unit 0 1 0 = 122; unit 0 1 1 = 32; unit 0 1 2 = 57
                """);
        Talk.of("Promise 7: 'BAD when there is no such record'", "unit 0 0 0 = BAD; unit 0 1 0 = BAD",
                Talk.records("a", "a", "a"), Talk.each("unit # 0 0 = BAD; unit # 1 0 = BAD", NO_RECORDS_OF_THREE),
                "type 0 'b'; unit 3 0 0 = BAD; add; unit 3 0 0 = 98; unit 0 0 0 = 97; unit 2 0 0 = 97");
        Talk.more("11x add; type 0 'a'; add; unit 11 0 0 = 97; type 0 'a'; unit 12 0 0 = BAD; unit -1 0 0 = BAD");
        Talk.of("Promise 7: BAD when there is no such 'field'", Talk.record("a", "b"),
                Talk.each("unit 0 # 0 = BAD", NO_FIELDS), "unit 0 0 0 = 97; unit 0 1 0 = 98");
        Object[] noPlacesOfThree = {"-1", "3", "4", "11", "12", "13", "MIN", "MAX"};
        Talk.of("Promise 7: BAD when there is no such 'character'",
                Talk.record("abc---------", "") + Talk.record("abcdefghijkl", "a"),
                Talk.each("unit 0 0 # = BAD", noPlacesOfThree), """
                unit 0 0 0 = 97; unit 0 0 2 = 99; unit 0 1 0 = BAD; unit 0 1 -1 = BAD
                unit 1 0 11 = 108; unit 1 0 12 = BAD; unit 1 0 -1 = BAD; unit 1 1 0 = 97; unit 1 1 1 = BAD
                """);
    }

    private static void jaccard() {
        Talk.of("Promise 8: 'Puts a JACCARD on the stack: true'", Talk.record("a", "b") + Talk.record("a", "c"), """
                jaccard 0 1 1 = true; accept = 1; similar 0 1 = 1
                jaccard 1 1 1 = true; accept = 1; similar 0 1 = 0
                jaccard 0 1 1 = true; jaccard 1 1 1 = true; discard; accept = 1; similar 0 1 = 1
                """);
        Talk.of("Promise 8: 'false when there is no such field'", Talk.each("jaccard # 1 1 = false", NO_FIELDS),
                "discard = false; jaccard 0 1 1 = true; jaccard 1 1 1 = true");
        Talk.of("Promise 8: false when 'not 1 <= num'", """
                jaccard 0 0 1 = false; jaccard 0 -1 1 = false; jaccard 0 MIN 1 = false; jaccard 1 0 100 = false
                jaccard 0 0 0 = false; jaccard 0 -1 -1 = false; jaccard 0 MIN MIN = false; discard = false
                jaccard 0 1 1 = true; jaccard 1 1 100 = true
                """);
        Talk.of("Promise 8: false when not 'num <= den'", """
                jaccard 0 2 1 = false; jaccard 0 100 99 = false; jaccard 1 51 50 = false; jaccard 0 1 0 = false
                jaccard 0 1 -1 = false; jaccard 0 1 MIN = false; jaccard 0 MAX MIN = false; jaccard 0 MAX 1 = false
                discard = false
                jaccard 0 2 2 = true; jaccard 0 99 100 = true; jaccard 0 100 100 = true; jaccard 1 50 50 = true
                """);
        Talk.of("Promise 8: false when not 'den <= 100'", """
                jaccard 0 1 101 = false; jaccard 0 101 101 = false; jaccard 1 100 101 = false
                jaccard 0 1 MAX = false; jaccard 0 MAX MAX = false; discard = false
                jaccard 0 1 100 = true; jaccard 1 100 100 = true
                """);
        Talk.of("Promise 8: false when 'the stack has 6'", """
                5x edit 0 0; jaccard 0 1 1 = true; jaccard 0 1 1 = false; jaccard 1 1 1 = false
                discard; jaccard 0 1 1 = true; jaccard 0 1 1 = false; join true; jaccard 0 1 1 = true
                jaccard 0 1 1 = false
                """);
    }

    private static void edit() {
        Talk.of("Promise 9: 'Puts an EDIT on the stack: true'", Talk.record("a", "b") + Talk.record("a", "c"), """
                jaccard 0 1 1; edit 0 0 = true; join true; accept = 2; similar 0 1 = 1
                jaccard 0 1 1; edit 1 0 = true; join true; accept = 2; similar 0 1 = 0
                jaccard 0 1 1; edit 1 0 = true; discard; accept = 1; similar 0 1 = 1
                """);
        Talk.of("Promise 9: 'false when there is no such field'", Talk.each("edit # 0 = false", NO_FIELDS),
                "discard = false; edit 0 0 = true; edit 1 0 = true");
        Talk.of("Promise 9: false when 'd is not 0 .. 8'", """
                edit 0 -1 = false; edit 0 9 = false; edit 1 -1 = false; edit 1 9 = false; edit 0 10 = false
                edit 0 MIN = false; edit 0 MAX = false; discard = false
                edit 0 0 = true; edit 0 8 = true; edit 1 0 = true; edit 1 8 = true; edit 0 1 = true; edit 0 7 = true
                """);
        Talk.of("Promise 9: false when 'the stack has 6'", """
                5x jaccard 0 1 1; edit 0 0 = true; edit 0 0 = false; edit 1 8 = false
                discard; edit 0 0 = true; edit 0 0 = false; join true; edit 0 0 = true; edit 0 0 = false
                """);
    }

    /** Puts one expression of so many JACCARDs and EDITs on the stack. */
    private static String chain(int comparisons) {
        return "jaccard 0 1 1\n" + "edit 0 0; join true\n".repeat(comparisons - 1);
    }

    private static void join() {
        String records = Talk.record("a", "b") + Talk.record("a", "c");
        Talk.of("Promise 10: 'The two topmost expressions are replaced by their AND (all true) or OR: true'",
                records, "jaccard 0 1 1; jaccard 1 1 1; join true = true; accept = 2; similar 0 1 = 0");
        Talk.more(records, "jaccard 0 1 1; jaccard 1 1 1; join false = true; accept = 2; similar 0 1 = 1");
        Talk.more(records, "jaccard 0 1 1; 2x jaccard 1 1 1; join true = true; discard; accept = 1; similar 0 1 = 1");
        Talk.more("6x jaccard 0 1 1; 5x join false = true; join false = false; accept = 6");
        Talk.of("Promise 10: 'false when there are not two'", """
                join true = false; join false = false; jaccard 0 1 1; join true = false; join false = false
                jaccard 0 1 1; join true = true; join true = false; accept = 2; join true = false
                """);
        Check.sentence("Promise 10: false when 'the new one would hold more than 12 JACCARDs and EDITs'");
        for (int lower = 1; lower <= 12; lower++) {
            int upper = 12 - lower;
            if (upper > 0) {
                Talk.more(chain(lower), chain(upper), "join true = true; accept = 12");
                Talk.more(chain(lower), chain(upper), "join false = true; jaccard 0 1 1; join true = false");
            }
            Talk.more(chain(lower), chain(upper + 1), "join true = false; join false = false; accept = BAD");
            Talk.more(chain(lower), chain(upper + 1), "join false = false; discard; accept = " + lower);
        }
        Talk.more(chain(12), chain(12), "join true = false; join false = false; discard; accept = 12");
    }

    private static void accept() {
        Talk.of("Promise 11: 'The stack's only expression becomes the rule'",
                Talk.record("a", "b") + Talk.record("a", "c"),
                "similar 0 1 = NONE; jaccard 0 1 1; similar 0 1 = NONE; accept = 1; similar 0 1 = 1");
        Talk.of("Promise 11: 'in place of one that was there'", Talk.record("a", "b") + Talk.record("a", "c"),
                "jaccard 0 1 1; accept; similar 0 1 = 1; jaccard 1 1 1; accept = 1; similar 0 1 = 0");
        Talk.of("Promise 11: 'the stack is empty then'", """
                jaccard 0 1 1; accept; discard = false; accept = BAD; join true = false
                6x edit 0 0 = true; edit 0 0 = false
                """);
        Check.sentence("Promise 11: 'Answers how many JACCARDs and EDITs it holds'");
        for (int n = 1; n <= 12; n++) {
            Talk.more(chain(n), "accept = " + n);
        }
        Talk.of("Promise 11: 'BAD when the stack has none'", "accept = BAD; jaccard 0 1 1; accept = 1; accept = BAD");
        Talk.more("edit 0 0; discard; accept = BAD");
        Talk.of("Promise 11: BAD when the stack has 'more than one'",
                "2x jaccard 0 1 1; accept = BAD; discard; accept = 1");
        Talk.more("6x jaccard 0 1 1", "accept = BAD; discard; ".repeat(5), "accept = 1");
        Talk.of("Promise 11: 'UNDRIVEN when it is not driven'",
                "edit 0 0; accept = UNDRIVEN; accept = UNDRIVEN; jaccard 0 1 1; join true; accept = 2");
        Talk.more("jaccard 0 1 1; edit 0 0; join false; accept = UNDRIVEN");
        Talk.more("edit 0 0; jaccard 0 1 1; join false; accept = UNDRIVEN; jaccard 0 1 1; join true; accept = 3");
    }

    private static void discard() {
        Talk.of("Promise 12: 'The topmost expression leaves the stack: true'", """
                jaccard 0 1 1; edit 0 0; discard = true; accept = 1
                edit 0 0; jaccard 0 1 1; discard = true; accept = UNDRIVEN
                """);
        Talk.of("Promise 12: 'false when there is none'", """
                discard = false; jaccard 0 1 1; discard = true; discard = false
                6x edit 0 0; 6x discard = true; discard = false; jaccard 0 1 1; accept; discard = false
                """);
    }

    private static void similar() {
        Talk.of("Promise 13: '1 when the rule holds of two records, 0 when not'", Talk.records("a b", "a", "b"), """
                jaccard 0 1 2; accept; similar 0 1 = 1; similar 1 0 = 1; similar 0 2 = 1; similar 2 0 = 1
                similar 1 2 = 0; similar 2 1 = 0
                """);
        Talk.more(Talk.alike(12), "similar 0 11 = 1; similar 11 0 = 1; similar 10 11 = 1");
        Talk.of("Promise 13: 'NONE when there is no rule'", Talk.records("a", "a"),
                "similar 0 1 = NONE; jaccard 0 1 1; similar 0 1 = NONE; accept; similar 0 1 = 1");
        Talk.of("Promise 13: 'BAD when there is no such record'", Talk.alike(3),
                Talk.each("similar 0 # = BAD; similar # 0 = BAD", NO_RECORDS_OF_THREE),
                "similar 0 2 = 1; similar 2 0 = 1; type 0 'a'; similar 0 3 = BAD; add; similar 0 3 = 1");
        Talk.more(Talk.alike(12), "type 0 'a'; similar 0 12 = BAD; similar 12 11 = BAD; similar 11 0 = 1");
        Talk.more(Talk.alike(0), "similar 0 1 = BAD; similar 0 0 = BAD");
        Talk.of("Promise 13: BAD when 'both are the same'", Talk.alike(3),
                "similar 0 0 = BAD; similar 1 1 = BAD; similar 2 2 = BAD; similar 1 2 = 1");
    }

    private static void start() {
        Talk.of("Promise 14: 'A run begins, with so many workers'", Talk.alike(4), """
                pairs = NONE; start 1 = 4; pairs = 0; crash 0 = 0; crash 1 = BAD
                start 4 = 4; crash 3 = 0; crash 4 = BAD; start 2 = 4; crash 1 = 0; crash 2 = BAD
                """);
        Talk.of("Promise 14: 'and nothing done, also when there was one'", Talk.alike(12), """
                start 1; 12x work 0; pairs = 66; cluster 11 = 0; start 1 = 12; pairs = 0; cluster 11 = BUSY
                found 0 11 = 0; found 0 1 = 0; found 10 11 = 0; crash 0 = 0; work 0 = 0; work 0 = 1; work 0 = 2
                start 4 = 12; pairs = 0; crash 0 = 0; crash 1 = 0; work 3 = 3; work 3 = 7; work 2 = 2
                start 2 = 12; pairs = 0; work 1 = 1; work 1 = 3
                start 4 = 12; pairs = 0; crash 3 = 0; crash 2 = 0; crash 1 = 0; work 3 = 3; work 2 = 2; pairs = 5
                """);
        Check.sentence("Promise 14: 'Answers how many tasks there are'");
        for (int count = 0; count <= 12; count++) {
            Talk.more(Talk.alike(count), Talk.each("start # = " + count, 1, 2, 3, 4));
        }
        Talk.of("Promise 14: 'NONE when there is no rule'", Talk.records("a", "a"),
                "start 1 = NONE; start 4 = NONE; edit 0 0; accept = UNDRIVEN; start 1 = NONE; pairs = NONE");
        Talk.of("Promise 14: 'BAD when workers is not 1 .. 4'", Talk.alike(2), """
                start 0 = BAD; start 5 = BAD; start -1 = BAD; start MIN = BAD; start MAX = BAD; pairs = NONE
                start 1 = 2; start 4 = 2; start 0 = BAD; start 5 = BAD; crash 3 = 0
                """);
    }

    private static void work() {
        Talk.of("Promise 15: 'A worker does its next task. Answers how many pairs that found'", Talk.alike(12), """
                start 1; work 0 = 0; work 0 = 1; 9x work 0; work 0 = 11; pairs = 66
                """);
        Talk.more(Talk.records("a", "b", "a"), "jaccard 0 1 1; accept; start 1; work 0 = 0; work 0 = 0; work 0 = 1");
        Talk.of("Promise 15: 'NONE when there is no run'", "work 0 = NONE", Talk.alike(2),
                "work 0 = NONE; start 1; work 0 = 0; add; work 0 = NONE");
        Check.sentence("Promise 15: 'BAD when there is no such worker'");
        for (int workers = 1; workers <= 4; workers++) {
            Talk.more(Talk.alike(12), "start " + workers,
                    Talk.each("work # = BAD", -1, workers, workers + 1, 4, 5, "MIN", "MAX"),
                    "pairs = 0; work " + (workers - 1) + " = " + (workers - 1) + "; work 0 = "
                    + (workers == 1 ? 1 : 0));
        }
        Talk.of("Promise 15: 'IDLE when all its tasks are done'", Talk.alike(3), """
                start 2; work 0 = 0; work 0 = 2; work 0 = IDLE; work 0 = IDLE; work 1 = 1; work 1 = IDLE
                start 3; work 2 = 2; work 2 = IDLE; start 4; work 3 = IDLE; work 2 = 2; work 2 = IDLE
                crash 2 = 1; work 2 = 2; work 2 = IDLE
                start 1; 2x work 0; work 0 = 2; work 0 = IDLE; pairs = 3
                """);
        Talk.more(Talk.alike(0), "start 2; work 0 = IDLE; work 1 = IDLE; pairs = 0");
    }

    private static void crash() {
        Talk.of("Promise 16: 'none of its tasks is done any more'", Talk.alike(6), """
                start 2; work 1 = 1; work 1 = 3; work 0 = 0; work 0 = 2; crash 1 = 2; crash 1 = 0
                work 1 = 1; work 1 = 3; work 1 = 5; work 1 = IDLE; work 0 = 4; work 0 = IDLE; cluster 5 = 0
                start 2; 3x work 0; crash 0 = 3; 3x work 1; cluster 5 = BUSY; work 0 = 0
                """);
        Talk.of("Promise 16: 'and the pairs found by them are not'", Talk.alike(6), """
                start 2; 2x work 1; 3x work 0; pairs = 10; found 0 1 = 1; found 2 3 = 1; found 3 4 = 1
                crash 1 = 2; pairs = 6; found 0 1 = 0; found 2 3 = 0; found 3 4 = 1; found 1 2 = 1; found 0 4 = 1
                crash 0 = 3; pairs = 0; found 3 4 = 0; found 1 2 = 0
                """);
        Talk.of("Promise 16: 'Answers how many tasks were done'", Talk.alike(12), """
                start 1; crash 0 = 0; work 0; crash 0 = 1; 11x work 0; crash 0 = 11; crash 0 = 0
                start 4; 3x work 3; crash 3 = 3; crash 2 = 0; 2x work 0; crash 0 = 2
                """);
        Talk.of("Promise 16: 'NONE when there is no run'", "crash 0 = NONE", Talk.alike(2),
                "crash 0 = NONE; start 1; work 0; crash 0 = 1; add; crash 0 = NONE");
        Check.sentence("Promise 16: 'BAD when there is no such worker'");
        for (int workers = 1; workers <= 4; workers++) {
            Talk.more(Talk.alike(12), "start " + workers + "; work " + (workers - 1),
                    Talk.each("crash # = BAD", -1, workers, workers + 1, 4, 5, "MIN", "MAX"),
                    "pairs = " + (workers - 1) + "; crash " + (workers - 1) + " = 1");
        }
        Talk.of("Promise 16: 'IDLE when the run is done'", Talk.alike(3), """
                start 2; 2x work 0; crash 0 = 2; 2x work 0; work 0 = IDLE; work 1; crash 0 = IDLE; crash 1 = IDLE
                pairs = 3; cluster 2 = 0; start 1; 2x work 0; crash 0 = 2; 3x work 0; crash 0 = IDLE; pairs = 3
                start 4; crash 3 = 0; work 0; work 1; crash 3 = 0; work 2; crash 3 = IDLE
                """);
        Talk.more(Talk.alike(0), "start 2; crash 0 = IDLE; crash 1 = IDLE");
    }

    private static void pairs() {
        Talk.of("Promise 17: 'How many pairs are found in this run'", Talk.alike(12), """
                start 1; pairs = 0; work 0; pairs = 0; work 0; pairs = 1; work 0; pairs = 3; 8x work 0; pairs = 55
                work 0; pairs = 66; start 4; pairs = 0; work 3; pairs = 3
                """);
        Talk.more(Talk.alike(0), "start 1; pairs = 0");
        Talk.more(Talk.records("a", "b"), "jaccard 0 1 1; accept; start 1; 2x work 0; pairs = 0");
        Talk.of("Promise 17: 'NONE when there is no run'", "pairs = NONE", Talk.alike(2),
                "pairs = NONE; start 1; pairs = 0; add; pairs = NONE; start 1; jaccard 0 1 1; accept; pairs = NONE");
    }

    private static void found() {
        Talk.of("Promise 18: 'Whether the pair of j and k, in either order, is found: 1 or 0'",
                Talk.records("a", "a", "b"), """
                jaccard 0 1 1; accept; start 1; found 0 1 = 0; found 1 0 = 0; work 0; found 0 1 = 0
                work 0; found 0 1 = 1; found 1 0 = 1; work 0; found 0 2 = 0; found 2 0 = 0; found 1 2 = 0
                """);
        Talk.more(Talk.alike(12), """
                start 1; 11x work 0; found 0 11 = 0; found 11 10 = 0; found 0 10 = 1; found 10 9 = 1
                work 0; found 0 11 = 1; found 11 10 = 1
                """);
        Talk.of("Promise 18: 'NONE when there is no run'", "found 0 1 = NONE", Talk.alike(2),
                "found 0 1 = NONE; start 1; 2x work 0; found 0 1 = 1; add; found 0 1 = NONE");
        Talk.of("Promise 18: 'BAD when there is no such record'", Talk.alike(3), "start 1; 3x work 0",
                Talk.each("found 0 # = BAD; found # 0 = BAD", NO_RECORDS_OF_THREE),
                "found 0 2 = 1; found 2 0 = 1; type 0 'a'; found 0 3 = BAD");
        Talk.more(Talk.alike(12), "start 1; 12x work 0; found 0 12 = BAD; found 12 11 = BAD; found 11 0 = 1");
        Talk.more(Talk.alike(0), "start 1; found 0 1 = BAD; found 0 0 = BAD");
        Talk.of("Promise 18: BAD when 'both are the same'", Talk.alike(3), """
                start 1; found 0 0 = BAD; found 2 2 = BAD; 3x work 0
                found 0 0 = BAD; found 1 1 = BAD; found 2 2 = BAD; found 1 2 = 1
                """);
    }

    private static void cluster() {
        Talk.of("Promise 19: 'The least record of a record's cluster'", Talk.records("a", "b", "b", "a", "c"), """
                jaccard 0 1 1; accept; start 2; 3x work 0; 2x work 1
                cluster 0 = 0; cluster 1 = 1; cluster 2 = 1; cluster 3 = 0; cluster 4 = 4
                """);
        Talk.more(Talk.alike(1), "start 1; work 0; cluster 0 = 0");
        Talk.more(Talk.alike(12), "start 1; 12x work 0; cluster 0 = 0; cluster 11 = 0");
        Talk.more("12x add; jaccard 0 1 1; accept; start 1; 12x work 0; cluster 0 = 0; cluster 11 = 11");
        Talk.of("Promise 19: 'NONE when there is no run'", "cluster 0 = NONE", Talk.alike(2),
                "cluster 0 = NONE; start 1; 2x work 0; cluster 1 = 0; add; cluster 1 = NONE");
        Talk.of("Promise 19: 'BAD when there is no such record'", Talk.alike(3), "start 1; 3x work 0",
                Talk.each("cluster # = BAD", NO_RECORDS_OF_THREE),
                "cluster 0 = 0; cluster 2 = 0; type 0 'a'; cluster 3 = BAD");
        Talk.more(Talk.alike(12), "start 1; 12x work 0; cluster 12 = BAD; cluster -1 = BAD; cluster 11 = 0");
        Talk.more(Talk.alike(0), "start 1; cluster 0 = BAD");
        Talk.of("Promise 19: 'BUSY when the run is not done'", Talk.alike(2), """
                start 1; cluster 0 = BUSY; work 0; cluster 0 = BUSY; cluster 1 = BUSY; work 0; cluster 1 = 0
                start 2; work 1; cluster 0 = BUSY; work 0; cluster 1 = 0; start 2; cluster 0 = BUSY
                start 2; work 0; cluster 0 = BUSY; cluster 1 = BUSY; work 1; cluster 1 = 0
                """);
    }

    /** One cluster: the three ways to keep a text choose records 2, 0 and 3, in either field. */
    private static final String THREE_WAYS = Talk.record("k b", "b") + Talk.record("k b", "b")
            + Talk.record("k long", "long") + Talk.record("k a", "a")
            + "jaccard 0 1 3; accept; start 1; 4x work 0\n";

    private static void keep() {
        Talk.of("Promise 20: 'Sets the way to keep a text in a field: true'", THREE_WAYS, """
                keep 0 1 = true; kept 0 0 = 0; kept 0 1 = 2; keep 1 2 = true; kept 0 0 = 0; kept 0 1 = 3
                keep 0 0 = true; kept 0 0 = 2; kept 0 1 = 3; keep 1 0 = true; kept 0 1 = 2; keep 0 2 = true
                kept 3 0 = 3; kept 3 1 = 2
                """);
        Talk.of("Promise 20: 'false when there is no such field'", THREE_WAYS, "keep 0 1; keep 1 1",
                Talk.each("keep # 2 = false; keep # 0 = false", NO_FIELDS), "kept 0 0 = 0; kept 0 1 = 0");
        Talk.of("Promise 20: false when 'how is not 0 .. 2'", THREE_WAYS, "keep 0 1; keep 1 1",
                Talk.each("keep 0 # = false; keep 1 # = false", "-1", "3", "4", "MIN", "MAX"), """
                kept 0 0 = 0; kept 0 1 = 0; keep 0 0 = true; keep 0 2 = true; keep 1 0 = true; keep 1 2 = true
                keep 0 -1 = false; keep 0 3 = false; keep 1 3 = false; kept 0 0 = 3; kept 0 1 = 3
                """);
    }

    private static void kept() {
        Talk.of("Promise 21: 'The record whose normal text is kept in a field for the cluster of a record'",
                THREE_WAYS, "keep 1 2; kept 0 0 = 2; kept 1 0 = 2; kept 2 0 = 2; kept 3 0 = 2; kept 2 1 = 3");
        Talk.more(Talk.record("p", "a"), Talk.record("q", "bb"), Talk.record("p", "c"), Talk.record("q", "a"), """
                jaccard 0 1 1; accept; start 1; 4x work 0
                kept 0 1 = 0; kept 2 1 = 0; kept 1 1 = 1; kept 3 1 = 1
                keep 1 2; kept 0 1 = 0; kept 2 1 = 0; kept 1 1 = 3; kept 3 1 = 3
                """);
        Check.sentence("Promise 21: '(the least one in it that has this text)'");
        String same = Talk.record("q", "a") + Talk.record("p", "") + Talk.record("p", "a")
                + Talk.record("p", "A-") + Talk.record("p", "a") + "jaccard 0 1 1; accept; start 1; 5x work 0\n";
        for (int how = 0; how <= 2; how++) {
            Talk.more(same, "keep 1 " + how, "kept 4 1 = 2; kept 3 1 = 2; kept 1 1 = 2; kept 0 1 = 0; kept 4 0 = 1");
        }
        Talk.of("Promise 21: 'NONE when there is no run'", "kept 0 0 = NONE", Talk.alike(2),
                "kept 0 0 = NONE; start 1; 2x work 0; kept 1 0 = 0; add; kept 1 0 = NONE");
        Talk.of("Promise 21: 'BAD when there is no such record'", Talk.alike(3), "start 1; 3x work 0",
                Talk.each("kept # 0 = BAD; kept # 1 = BAD", NO_RECORDS_OF_THREE),
                "kept 0 0 = 0; kept 2 0 = 0; type 0 'a'; kept 3 0 = BAD");
        Talk.more(Talk.alike(12), "start 1; 12x work 0; kept 12 0 = BAD; kept -1 0 = BAD; kept 11 0 = 0");
        Talk.more(Talk.alike(0), "start 1; kept 0 0 = BAD");
        Talk.of("Promise 21: BAD when there is no such 'field'", Talk.alike(3), "start 1; 3x work 0",
                Talk.each("kept 0 # = BAD; kept 2 # = BAD", NO_FIELDS), "kept 2 0 = 0; kept 2 1 = 0");
        Talk.of("Promise 21: 'BUSY when the run is not done'", Talk.alike(2), """
                start 1; kept 0 0 = BUSY; work 0; kept 0 0 = BUSY; kept 1 1 = BUSY; work 0; kept 1 0 = 0
                start 2; work 1; kept 0 0 = BUSY; work 0; kept 1 1 = 0; start 2; kept 0 0 = BUSY
                start 2; work 0; kept 0 0 = BUSY; kept 1 1 = BUSY; work 1; kept 1 1 = 0
                """);
    }
}
