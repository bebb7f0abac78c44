/** 'What it is' and 'Terms': each sentence that names a bound, on both of its sides. */
public final class TermsBoundsTest {
    public static void main(String[] args) {
        calls();
        records();
        fields();
        characters();
        codes();
        words();
        smallLetters();
        normalText();
        wordSet();
        jaccardOfNoWords();
        jaccardAtLeast();
        editAtMost();
        editSteps();
        and();
        or();
        driven();
        stack();
        rule();
        workers();
        tasks();
        tasksOfWorkers();
        ascendingOrder();
        pairsOfTasks();
        done();
        clusters();
        namesOfClusters();
        noRunAtFirst();
        runEndsWithRecord();
        runEndsWithRule();
        runOutlivesAllElse();
        wayAtFirst();
        longest();
        commonest();
        least();
        textsWithoutCharacters();
        severalCommonest();
        lessByCode();
        lessByEnd();
        Check.end();
    }

    /** The 512th call is the last one that is due: here it is each call of the face in turn. */
    private static void calls() {
        Check.sentence("What it is: at most 512 calls");
        String run = Talk.alike(12) + "start 1; 11x work 0\n";
        lastCall("type 0 'a' = true", "");
        lastCall("type 0 'm' = false", "type 0 'abcdefghijkl'");
        lastCall("add = 11", "11x add");
        lastCall("add = FULL", "12x add");
        lastCall("records = 12", "12x add");
        lastCall("words 11 0 = 1", run);
        lastCall("length 11 0 = 1", run);
        lastCall("unit 11 0 0 = 97", run);
        lastCall("jaccard 0 1 1 = true", "5x edit 0 0");
        lastCall("jaccard 0 1 1 = false", "6x edit 0 0");
        lastCall("edit 0 0 = true", "5x edit 0 0");
        lastCall("edit 0 0 = false", "6x edit 0 0");
        lastCall("join true = true", "2x edit 0 0");
        lastCall("join true = false", "edit 0 0");
        lastCall("accept = 2", "2x jaccard 0 1 1; join false");
        lastCall("accept = UNDRIVEN", "2x edit 0 0; join false");
        lastCall("discard = true", "edit 0 0");
        lastCall("discard = false", "");
        lastCall("similar 10 11 = 1", run);
        lastCall("start 4 = 12", run);
        lastCall("work 0 = 11", run);
        lastCall("work 0 = IDLE", run + "work 0");
        lastCall("crash 0 = 11", run);
        lastCall("crash 0 = IDLE", run + "work 0");
        lastCall("pairs = 55", run);
        lastCall("found 0 10 = 1", run);
        lastCall("cluster 11 = BUSY", run);
        lastCall("cluster 11 = 0", run + "work 0");
        lastCall("keep 1 2 = true", run);
        lastCall("kept 11 0 = BUSY", run);
        lastCall("kept 11 0 = 0", run + "work 0");
    }

    /** The calls that only fill up come once behind those that prepare, and once before them. */
    private static void lastCall(String row, String prepared) {
        Talk measured = new Talk(new RecordMatcher());
        measured.say(prepared);
        int free = Talk.MOST_CALLS - 1 - measured.answers().size();
        Talk.more(prepared, free + "x records", row);
        Talk.more(free % 2 + "x records; " + "start 0 = NONE; discard = false; ".repeat(free / 2),
                prepared, row);
    }

    private static void records() {
        Talk.of("Terms: 'RECORDS 0, 1, .. are numbered as they come, at most 12'", """
                words 0 0 = BAD; type 0 'a'; add = 0; words 0 0 = 1; words 1 0 = BAD
                type 0 'a b'; add = 1; words 1 0 = 2; words 0 0 = 1
                add = 2; add = 3; add = 4; add = 5; add = 6; add = 7; add = 8; add = 9; add = 10
                words 11 0 = BAD; type 0 'a b c'; add = 11; words 11 0 = 3; words 12 0 = BAD
                type 0 'a'; add = FULL; records = 12; words 12 0 = BAD
                words 0 0 = 1; words 1 0 = 2; words 11 0 = 3
                """);
    }

    private static void fields() {
        String[] outside = {"-1", "2", "MIN", "MAX"};
        Talk.of("Terms: 'each has the FIELDS 0 and 1'", Talk.alike(2), """
                start 1; 2x work 0
                keep 0 0 = true; keep 1 0 = true; kept 0 0 = 0; kept 0 1 = 0
                words 0 0 = 1; words 0 1 = 0; length 0 0 = 1; length 0 1 = 0; unit 0 0 0 = 97
                edit 0 0 = true; edit 1 0 = true; jaccard 0 1 1 = true; jaccard 1 1 1 = true
                """,
                Talk.each("type # 'a' = false", (Object[]) outside),
                Talk.each("words 0 # = BAD", (Object[]) outside),
                Talk.each("length 0 # = BAD", (Object[]) outside),
                Talk.each("unit 0 # 0 = BAD", (Object[]) outside),
                Talk.each("jaccard # 1 1 = false", (Object[]) outside),
                Talk.each("edit # 0 = false", (Object[]) outside),
                Talk.each("keep # 0 = false", (Object[]) outside),
                Talk.each("kept 0 # = BAD", (Object[]) outside),
                "type 0 'b' = true; type 1 'c' = true; add; unit 2 0 0 = 98; unit 2 1 0 = 99");
    }

    private static void characters() {
        Talk.of("Terms: 'texts of at most 12 characters'", """
                type 0 'abcdefghijkl' = true; type 0 'm' = false
                type 1 '-- a -- b --' = true; type 1 'm' = false; type 1 ' ' = false
                add; length 0 0 = 12; unit 0 0 11 = 108; length 0 1 = 3
                """);
    }

    private static void codes() {
        Talk.of("Terms: 'with codes 0 .. 255'", """
                type 0 0 = true; type 0 1 = true; type 0 254 = true; type 0 255 = true
                type 1 0 = true; type 1 1 = true; type 1 254 = true; type 1 255 = true
                type 0 256 = false; type 0 257 = false; type 0 353 = false
                type 0 32767 = false; type 0 32768 = false; type 0 65535 = false
                type 1 256 = false; type 1 257 = false; type 1 353 = false
                type 1 32767 = false; type 1 32768 = false; type 1 65535 = false
                add; length 0 0 = 0; length 0 1 = 0
                """);
    }

    private static boolean isOfWord(int code) {
        return "abcdefghijklmnopqrstuvwxyzABCDEFGHIJKLMNOPQRSTUVWXYZ0123456789".indexOf(code) >= 0;
    }

    private static void words() {
        Talk.of("Terms: 'longest runs of letters a .. z, A .. Z and digits 0 .. 9'",
                Talk.records("", "-- --", "a", "-a-", "az", "abcdefghijkl", "a0Z9", "a-b", "-a-b-c-d-e-f",
                        "a-b-c-d-e-f-", "ab--------cd"), """
                words 0 0 = 0; words 1 0 = 0; words 2 0 = 1; words 3 0 = 1; words 4 0 = 1; words 5 0 = 1
                words 6 0 = 1; words 7 0 = 2; words 8 0 = 6; words 9 0 = 6; words 10 0 = 2
                """);
        for (int code = 0; code <= 255; code++) {
            String texts = "type 0 'x'; type 0 # = true; type 0 'y'; type 1 # = true; add\n";
            String wanted = isOfWord(code) ? "words 0 0 = 1; words 0 1 = 1; length 0 1 = 1"
                    : "words 0 0 = 2; unit 0 0 1 = 32; words 0 1 = 0; length 0 1 = 0";
            Talk.more(Talk.each(texts + wanted, code));
        }
    }

    private static void smallLetters() {
        Talk.of("Terms: 'with small letters in place of capital ones'", """
                type 0 'AZaz09'; type 1 'BYby18'; add
                unit 0 0 0 = 97; unit 0 0 1 = 122; unit 0 0 2 = 97; unit 0 0 3 = 122
                unit 0 0 4 = 48; unit 0 0 5 = 57
                unit 0 1 0 = 98; unit 0 1 1 = 121; unit 0 1 2 = 98; unit 0 1 3 = 121
                unit 0 1 4 = 49; unit 0 1 5 = 56
                type 0 'A a'; add; words 1 0 = 1; type 0 'Z z'; add; words 2 0 = 1
                """);
        for (char capital = 'A'; capital <= 'Z'; capital++) {
            Talk.more("type 0 " + (int) capital, "add; unit 0 0 0 = " + (capital + 32));
        }
    }

    private static void normalText() {
        String sentence = "Terms: 'its words in order, one blank (code 32) between two of them'";
        Check.sentence(sentence);
        normal("", "");
        normal("            ", "");
        normal("b", "b");
        normal("-b", "b");
        normal("b-", "b");
        normal("b a", "b a");
        normal("b-a", "b a");
        normal("b          a", "b a");
        normal(" b a ", "b a");
        normal("a b c d e f ", "a b c d e f");
        normal(" f e d c b a", "f e d c b a");
        normal("abcdef ghijk", "abcdef ghijk");
        normal("a a a", "a a a");
    }

    private static void normal(String typed, String wanted) {
        StringBuilder rows = new StringBuilder();
        for (int field = 0; field < 2; field++) {
            rows.append("length 0 " + field + " = " + wanted.length() + "\n");
            for (int i = 0; i < wanted.length(); i++) {
                rows.append("unit 0 " + field + " " + i + " = " + (int) wanted.charAt(i) + "\n");
            }
        }
        Talk.more(Talk.record(typed, typed), rows.toString());
    }

    private static void wordSet() {
        Talk.of("Terms: 'its word SET has each of its words once'",
                Talk.records("a", "a a", "a A a A a A", "a b a b a b", "a b c d e f", "a ab aba", "ab a b ba",
                        "abcde abcde", "abcde abcdf", "0 00 0 000", "ab  "), """
                words 0 0 = 1; words 1 0 = 1; words 2 0 = 1; words 3 0 = 2; words 4 0 = 6; words 5 0 = 3
                words 6 0 = 4; words 7 0 = 1; words 8 0 = 2; words 9 0 = 3; words 10 0 = 1
                """);
    }

    private static void jaccardOfNoWords() {
        Talk.of("Terms: JACCARD 'holds when e is above 0 and'",
                Talk.records("", "--", "a", "A"), """
                jaccard 0 1 100; accept
                similar 0 1 = 0; similar 1 0 = 0; similar 0 2 = 0; similar 2 1 = 0; similar 2 3 = 1
                jaccard 0 100 100; accept
                similar 0 1 = 0; similar 1 0 = 0; similar 0 2 = 0; similar 2 1 = 0; similar 2 3 = 1
                """);
    }

    /** Two texts with b and e words, and the greatest num of a hundred with which it holds. */
    private static void jaccard(String one, String other, int num) {
        StringBuilder rows = new StringBuilder(Talk.record(one, other) + Talk.record(other, one));
        for (int field = 0; field < 2; field++) {
            if (num > 0) {
                rows.append("jaccard " + field + " " + num + " 100; accept\n");
                rows.append("similar 0 1 = 1; similar 1 0 = 1\n");
            }
            if (num < 100) {
                rows.append("jaccard " + field + " " + (num + 1) + " 100; accept\n");
                rows.append("similar 0 1 = 0; similar 1 0 = 0\n");
            }
        }
        Talk.more(rows.toString());
    }

    private static void jaccardAtLeast() {
        Check.sentence("Terms: JACCARD 'b * den is at least num * e'");
        jaccard("a", "b", 0);
        jaccard("a b c d e f", "g h i j k l", 0);
        jaccard("a", "a", 100);
        jaccard("a a", "A", 100);
        jaccard("a b", "b a b", 100);
        jaccard("a b c d e f", "f e d c b a", 100);
        jaccard("a", "a b", 50);
        jaccard("a b", "b c", 33);
        jaccard("a b", "a b c", 66);
        jaccard("a", "a b c d", 25);
        jaccard("a", "a b c d e f", 16);
        jaccard("b c d e f", "a b c d e f", 83);
        jaccard("a b c d e f", "f g h i j k", 9);
        jaccard("ab", "a b", 0);
        jaccard("ab abc", "abc a", 33);
        // Words that fill a text, or end where it does.
        jaccard("abcdefghijkl", "ABCDEFGHIJKL", 100);
        jaccard("abcdefghijkl", "abcdefghijkm", 0);
        jaccard("abcdefghijkl", "abcdefghijk", 0);
        jaccard("stuvwxy abcd", "abcd", 50);
        jaccard("stuvwxy abcd", "abcde", 0);
        jaccard("stuvwxy abcd", "abc", 0);
        Talk.more(Talk.records("a b", "b c"), """
                jaccard 0 1 3; accept; similar 0 1 = 1; jaccard 0 33 99; accept; similar 0 1 = 1
                jaccard 0 1 2; accept; similar 0 1 = 0; jaccard 0 34 99; accept; similar 0 1 = 0
                jaccard 0 1 1; accept; similar 0 1 = 0; jaccard 0 33 98; accept; similar 0 1 = 0
                """);
    }

    /** A rule that holds just when the EDIT does, as the other field's JACCARD always holds. */
    private static void edit(String one, String other, int steps) {
        StringBuilder rows = new StringBuilder(Talk.record(one, "k") + Talk.record(other, "k"));
        for (int d = Math.max(0, steps - 1); d <= Math.min(8, steps); d++) {
            int want = d >= steps ? 1 : 0;
            rows.append("jaccard 1 1 1; edit 0 " + d + "; join true; accept\n");
            rows.append("similar 0 1 = " + want + "; similar 1 0 = " + want + "\n");
        }
        if (steps > 8) {
            rows.append("jaccard 1 1 1; edit 0 8; join true; accept; similar 0 1 = 0; similar 1 0 = 0\n");
        }
        Talk.more(rows.toString());
    }

    private static void editAtMost() {
        Check.sentence("Terms: EDIT 'by at most d steps'");
        String text = "abcdefghijkl";
        for (int steps = 0; steps <= 12; steps++) {
            edit(text, text.substring(steps), steps);
            edit(text, text.substring(0, 12 - steps), steps);
            edit(text, "012345678901".substring(0, steps) + text.substring(steps), steps);
            edit("", text.substring(0, steps), steps);
        }
        edit("", "", 0);
        edit("A--B", "a b", 0);
        edit("a b", "ab", 1);
    }

    private static void editSteps() {
        Check.sentence("Terms: EDIT 'puts in, takes out or changes one character'");
        for (int place = 0; place <= 4; place++) {
            edit("abcd", "abcd".substring(0, place) + "x" + "abcd".substring(place), 1);
        }
        for (int place = 0; place < 4; place++) {
            String before = "abcd".substring(0, place);
            edit("abcd", before + "abcd".substring(place + 1), 1);
            edit("abcd", before + "x" + "abcd".substring(place + 1), 1);
        }
        edit("ab", "ba", 2);
        edit("abcde", "bcdef", 2);
        edit("abc", "xbyd", 3);
        edit("aab", "b", 2);
    }

    /** Field 0 of the two records is alike or not, and field 1: each part of the rule sees one. */
    private static void join(boolean all, boolean first, boolean second, boolean want) {
        String rows = "join " + all + "; accept = 2; similar 0 1 = " + want + "; similar 1 0 = " + want;
        String records = Talk.record("a", "b") + Talk.record(first ? "a" : "c", second ? "b" : "c");
        Talk.more(records, "jaccard 0 1 1; jaccard 1 1 1", rows);
        Talk.more(records, "jaccard 1 1 1; jaccard 0 1 1", rows);
    }

    private static void and() {
        Check.sentence("Terms: AND 'holds when both hold'");
        join(true, true, true, true);
        join(true, true, false, false);
        join(true, false, true, false);
        join(true, false, false, false);
    }

    private static void or() {
        Check.sentence("Terms: OR 'when at least one of them holds'");
        join(false, true, true, true);
        join(false, true, false, true);
        join(false, false, true, true);
        join(false, false, false, false);
    }

    private static void driven() {
        String j = "jaccard 0 1 1\n";
        String e = "edit 0 0\n";
        Talk.of("Terms: 'A JACCARD is DRIVEN'", j, "accept = 1");
        Talk.of("Terms: 'an EDIT is not'", e, "accept = UNDRIVEN");
        Talk.of("Terms: 'an AND is driven when at least one of its parts is'", j, j, "join true; accept = 2");
        Talk.more(j, e, "join true; accept = 2");
        Talk.more(e, j, "join true; accept = 2");
        Talk.more(e, e, "join true; accept = UNDRIVEN");
        Talk.of("Terms: 'an OR when both are'", j, j, "join false; accept = 2");
        Talk.more(j, e, "join false; accept = UNDRIVEN");
        Talk.more(e, j, "join false; accept = UNDRIVEN");
        Talk.more(e, e, "join false; accept = UNDRIVEN");
    }

    private static void stack() {
        Talk.of("Terms: 'a STACK of at most 6 expressions'", """
                6x edit 0 0 = true; edit 0 0 = false; jaccard 0 1 1 = false; 6x discard = true
                discard = false; 6x jaccard 0 1 1 = true; jaccard 0 1 1 = false; edit 0 0 = false
                discard = true; edit 0 0 = true; edit 0 0 = false
                5x join true = true; join true = false; 5x edit 0 0 = true; edit 0 0 = false
                """);
    }

    private static void rule() {
        Talk.of("Terms: 'perhaps a RULE'", Talk.records("a", "a"), """
                similar 0 1 = NONE; start 1 = NONE; jaccard 0 1 1; similar 0 1 = NONE; start 1 = NONE
                accept; similar 0 1 = 1; start 1 = 2
                """);
    }

    private static void workers() {
        Talk.of("Terms: 'A RUN has 1 to 4 WORKERS 0, 1, ..'", Talk.alike(4), """
                start 0 = BAD; pairs = NONE; start 5 = BAD; pairs = NONE
                start -1 = BAD; start MIN = BAD; start MAX = BAD; pairs = NONE
                start 1 = 4; work -1 = BAD; work 0 = 0; work 1 = BAD; crash -1 = BAD; crash 0 = 1; crash 1 = BAD
                start 2 = 4; work -1 = BAD; work 1 = 1; work 2 = BAD; crash -1 = BAD; crash 1 = 1; crash 2 = BAD
                start 3 = 4; work -1 = BAD; work 2 = 2; work 3 = BAD; crash -1 = BAD; crash 2 = 1; crash 3 = BAD
                start 4 = 4; work -1 = BAD; work 3 = 3; work 4 = BAD; crash -1 = BAD; crash 3 = 1; crash 4 = BAD
                """);
    }

    private static void tasks() {
        Check.sentence("Terms: 'a TASK for each record r'");
        for (int count = 0; count <= 12; count++) {
            Talk.more(Talk.alike(count), "start 1 = " + count, count == 0 ? "" : count + "x work 0",
                    "work 0 = IDLE; crash 0 = IDLE");
        }
    }

    /** All records are alike, so that task r finds r pairs: the answer tells which task was done. */
    private static String worksOf(int worker, int workers, int count) {
        StringBuilder rows = new StringBuilder();
        for (int r = worker; r < count; r += workers) {
            rows.append("work " + worker + " = " + r + "\n");
        }
        return rows + "work " + worker + " = IDLE\n";
    }

    private static void tasksOfWorkers() {
        Check.sentence("Terms: 'task r is of worker r mod the number of workers'");
        for (int workers = 1; workers <= 4; workers++) {
            for (int count = 0; count <= 12; count++) {
                StringBuilder rows = new StringBuilder();
                for (int w = workers - 1; w >= 0; w--) {
                    rows.append(worksOf(w, workers, count));
                }
                Talk.more(Talk.alike(count), "start " + workers, rows.toString());
            }
        }
    }

    private static void ascendingOrder() {
        Talk.of("Terms: 'Each worker does its tasks in ascending order'", Talk.alike(12), """
                start 3; work 2 = 2; work 0 = 0; work 2 = 5; work 2 = 8; work 1 = 1; work 0 = 3; work 1 = 4
                work 2 = 11; work 2 = IDLE; work 1 = 7; work 0 = 6; work 0 = 9; work 0 = IDLE; work 1 = 10
                work 1 = IDLE
                start 1; work 0 = 0; work 0 = 1; work 0 = 2; work 0 = 3; work 0 = 4; work 0 = 5; work 0 = 6
                work 0 = 7; work 0 = 8; work 0 = 9; work 0 = 10; work 0 = 11; work 0 = IDLE
                """);
    }

    private static void pairsOfTasks() {
        Talk.of("Terms: 'Doing task r finds the pairs (q, r), q less than r, of which the rule holds'",
                Talk.records("a", "b", "a", "b", "a"), """
                jaccard 0 1 1; accept; start 4
                work 2 = 1; pairs = 1; found 0 2 = 1; found 2 4 = 0; found 1 2 = 0; found 0 1 = 0
                work 0 = 0; pairs = 1; found 0 4 = 0; found 1 3 = 0
                work 3 = 1; pairs = 2; found 1 3 = 1; found 2 3 = 0
                work 0 = 2; pairs = 4; found 0 4 = 1; found 2 4 = 1; found 1 4 = 0; found 3 4 = 0
                work 1 = 0; pairs = 4; found 0 1 = 0
                """);
        Talk.more(Talk.alike(4), """
                start 4; work 3 = 3; pairs = 3; found 0 3 = 1; found 1 3 = 1; found 2 3 = 1; found 1 2 = 0
                work 0 = 0; pairs = 3; work 1 = 1; pairs = 4; found 0 1 = 1; found 1 2 = 0
                work 2 = 2; pairs = 6; found 0 2 = 1; found 1 2 = 1
                """);
    }

    private static void done() {
        Talk.of("Terms: 'When all tasks of all workers are done, the run is DONE'", Talk.alike(3), """
                start 2; cluster 0 = BUSY; work 0; cluster 0 = BUSY; work 0; cluster 0 = BUSY; kept 0 0 = BUSY
                work 1; cluster 0 = 0; kept 0 0 = 0; crash 0 = IDLE; crash 1 = IDLE
                start 2; work 1; cluster 0 = BUSY; work 0; cluster 0 = BUSY; crash 1 = 1; work 0; cluster 0 = BUSY
                work 1; cluster 0 = 0
                start 4; work 2; work 1; cluster 2 = BUSY; work 3 = IDLE; cluster 2 = BUSY; work 0; cluster 2 = 0
                start 1; 2x work 0; cluster 2 = BUSY; work 0; cluster 2 = 0
                """);
        for (int workers = 2; workers <= 4; workers++) {
            for (int last = 0; last < workers; last++) {
                doneByLastWorker(workers, last);
            }
        }
        Talk.more(Talk.alike(0), "start 1 = 0; crash 0 = IDLE; start 4 = 0; crash 0 = IDLE; crash 3 = IDLE");
        Talk.more(Talk.alike(1), "start 4 = 1; crash 0 = 0; cluster 0 = BUSY; work 0 = 0; cluster 0 = 0");
    }

    /** Of twelve tasks all but those of one worker are done first: the run waits for its last one. */
    private static void doneByLastWorker(int workers, int last) {
        int each = 12 / workers;
        StringBuilder rows = new StringBuilder("start " + workers + "\n");
        for (int w = 0; w < workers; w++) {
            rows.append(w == last ? "" : each + "x work " + w + "; cluster 0 = BUSY\n");
        }
        rows.append(each - 1 + "x work " + last + "; cluster 0 = BUSY; work " + last + "; cluster 0 = 0");
        Talk.more(Talk.alike(12), rows.toString());
    }

    private static String clustersAre(int... wanted) {
        StringBuilder rows = new StringBuilder("jaccard 0 1 100; accept; start 1; ");
        rows.append(wanted.length + "x work 0\n");
        for (int r = 0; r < wanted.length; r++) {
            rows.append("cluster " + r + " = " + wanted[r] + "\n");
        }
        return rows.toString();
    }

    private static void clusters() {
        Talk.of("Terms: 'in the same cluster when one can go from the one to the other by pairs'",
                Talk.records("a", "a"), clustersAre(0, 0));
        Talk.more(Talk.records("a", "b"), clustersAre(0, 1));
        Talk.more(Talk.records("a"), clustersAre(0));
        Talk.more(Talk.records("", ""), clustersAre(0, 1));
        Talk.more(Talk.records("a", "b", "a b"), clustersAre(0, 0, 0));
        Talk.more(Talk.records("a", "b", "c", "d", "a b", "c d"), clustersAre(0, 0, 2, 2, 0, 2));
        Talk.more(Talk.records("a", "b", "c", "d", "a b", "c d", "b c"), clustersAre(0, 0, 0, 0, 0, 0, 0));
        Talk.more(Talk.records("a b", "b c", "c d", "d e", "e f", "f g", "g h", "h i", "i j", "j k", "k l",
                "l m"), clustersAre(0, 0, 0, 0, 0, 0, 0, 0, 0, 0, 0, 0));
        Talk.more(Talk.records("a", "b", "c", "d", "e", "f", "g", "h", "i", "j", "k", "l"),
                clustersAre(0, 1, 2, 3, 4, 5, 6, 7, 8, 9, 10, 11));
    }

    private static void namesOfClusters() {
        Talk.of("Terms: 'A cluster is named by its least record'",
                Talk.records("c", "b", "a", "b", "a", "c"), clustersAre(0, 1, 2, 1, 2, 0));
        Talk.more(Talk.records("a", "b", "c", "d", "c d", "b d"), clustersAre(0, 1, 1, 1, 1, 1));
        Talk.more(Talk.records("a", "b", "c", "d", "e", "f", "g", "h", "i", "j", "k", "k"),
                clustersAre(0, 1, 2, 3, 4, 5, 6, 7, 8, 9, 10, 10));
    }

    private static final String NO_RUN = """
            work 0 = NONE; crash 0 = NONE; pairs = NONE; found 0 1 = NONE; cluster 0 = NONE; kept 0 0 = NONE
            """;

    private static void noRunAtFirst() {
        Talk.of("Terms: 'There is no run at first'", NO_RUN, Talk.records("a", "a"), NO_RUN,
                "jaccard 0 1 1; accept", NO_RUN, "start 1; pairs = 0");
    }

    private static void runEndsWithRecord() {
        Talk.of("Terms: 'there is none any more as soon as a record .. comes'", Talk.alike(2),
                "start 1; add = 2", NO_RUN, "start 1 = 3; work 0; add = 3", NO_RUN,
                "start 1 = 4; 4x work 0; cluster 1 = 0; type 0 'a'; cluster 1 = 0; add = 4", NO_RUN);
        Talk.more(Talk.alike(0), "start 1 = 0; pairs = 0; add = 0", NO_RUN);
        Talk.more(Talk.alike(11), "start 1 = 11; pairs = 0; add = 11", NO_RUN);
    }

    private static void runEndsWithRule() {
        Talk.of("Terms: 'there is none any more as soon as .. a rule comes'", Talk.alike(2),
                "start 1; jaccard 0 1 1; accept = 1", NO_RUN,
                "start 1; work 0; jaccard 0 1 1; accept = 1", NO_RUN,
                "start 1; 2x work 0; jaccard 1 1 1; cluster 1 = 0; accept = 1", NO_RUN);
    }

    private static void runOutlivesAllElse() {
        Talk.of("Terms: 'as soon as a record or a rule comes', and not by anything else", Talk.alike(12), """
                start 2; work 1 = 1; work 1 = 3; pairs = 4
                type 0 'ab'; pairs = 4; type 1 'c'; pairs = 4; add = FULL; pairs = 4
                accept = BAD; pairs = 4; edit 0 0; pairs = 4; accept = UNDRIVEN; pairs = 4
                jaccard 0 1 1; pairs = 4; accept = BAD; join true; pairs = 4; discard; pairs = 4
                similar 0 1 = 1; keep 0 1; pairs = 4; start 0 = BAD; start 5 = BAD; pairs = 4
                work 1 = 5; work 0 = 0; crash 1 = 3; work 1 = 1
                """);
    }

    /** One cluster with these texts in field 1, and the record that is due in one of the ways. */
    private static void kept(int how, int want, String... texts) {
        StringBuilder rows = new StringBuilder();
        for (String text : texts) {
            rows.append(Talk.record("k", text));
        }
        rows.append("jaccard 0 1 1; accept; start 1; " + texts.length + "x work 0; keep 1 " + how + "\n");
        for (int r = 0; r < texts.length; r++) {
            rows.append("kept " + r + " 1 = " + want + "; kept " + r + " 0 = 0\n");
        }
        Talk.more(rows.toString());
    }

    private static void wayAtFirst() {
        String records = Talk.record("k b", "b") + Talk.record("k a", "a") + Talk.record("k a", "a")
                + Talk.record("k long", "long");
        String run = "jaccard 0 1 3; accept; start 1; 4x work 0\n";
        Talk.of("Terms: 'a way to KEEP a text for a cluster, 0 at first'", records, run,
                "kept 0 0 = 3; kept 0 1 = 3; keep 0 0; kept 0 0 = 3; kept 0 1 = 3");
        Talk.more(records, "keep 0 1", run, "kept 0 0 = 1; kept 0 1 = 3");
        Talk.more(records, "keep 1 1", run, "kept 0 0 = 3; kept 0 1 = 1");
    }

    private static void longest() {
        Check.sentence("Terms: KEEP '0 the longest of the normal texts'");
        kept(0, 1, "a", "bb", "c");
        kept(0, 2, "abcdefghijk", "abcdefghij", "abcdefghijkl");
        kept(0, 1, "", "a");
        kept(0, 1, "a----------b", "abcd");
        kept(0, 11, "a", "a", "a", "a", "a", "a", "a", "a", "a", "a", "a", "bb");
        Check.sentence("Terms: KEEP 0 '(of several the one of the least record)'");
        kept(0, 0, "b", "a");
        kept(0, 1, "", "bb", "aa", "bb");
        kept(0, 0, "", "", "");
        kept(0, 0, "abcdefghijkl", "abcdefghijkk");
    }

    private static void commonest() {
        Check.sentence("Terms: KEEP '1 the one that most of its records have'");
        kept(1, 0, "a");
        kept(1, 1, "long", "b", "b");
        kept(1, 2, "a", "a", "b", "b", "b");
        kept(1, 1, "c", "A-b", "d", "a b");
        kept(1, 10, "a", "b", "c", "d", "e", "f", "g", "h", "i", "j", "k", "k");
        kept(1, 1, "abcdefghijkl", "abcdefghijkm", "ABCDEFGHIJKM");
        kept(1, 1, "a", "ab", "abc", "ab");
    }

    private static void least() {
        Check.sentence("Terms: KEEP '2 the least one'");
        kept(2, 0, "a");
        kept(2, 1, "b", "a", "c");
        kept(2, 11, "l", "k", "j", "i", "h", "g", "f", "e", "d", "c", "b", "a");
        kept(2, 1, "b", "A", "a");
    }

    private static void textsWithoutCharacters() {
        Check.sentence("Terms: 'in both, texts without characters do not count'");
        for (int how = 1; how <= 2; how++) {
            kept(how, 1, "", "a");
            kept(how, 0, "a", "");
            kept(how, 11, "", "", "", "", "", "", "", "", "", "", "", "a");
            kept(how, 0, "a", "", "", "", "", "", "", "", "", "", "", "");
            kept(how, 1, "--", "a", "--");
            kept(how, 1, "", "a", "", "b", "");
        }
        Check.sentence("Terms: texts without characters 'do not count unless all are such'");
        for (int how = 1; how <= 2; how++) {
            kept(how, 0, "");
            kept(how, 0, "", "");
            kept(how, 0, "--", "", " ");
            kept(how, 0, "", "", "", "", "", "", "", "", "", "", "", "");
        }
    }

    private static void severalCommonest() {
        Check.sentence("Terms: 'of several in 1 the one whose least record in the cluster is least'");
        kept(1, 0, "b", "a");
        kept(1, 0, "b", "a", "a", "b");
        kept(1, 0, "b", "a", "b", "a");
        kept(1, 1, "c", "b", "a", "a", "b");
        kept(1, 1, "", "b", "", "a");
        kept(1, 0, "a", "bb", "ccc");
    }

    private static void lessByCode() {
        Check.sentence("Terms: LESS 'at the first place at which they differ its code is less'");
        kept(2, 1, "b", "azzz", "ba");
        kept(2, 1, "az", "ay", "ayz");
        kept(2, 1, "abcdefghijkl", "abcdefghijkk", "abcdefghijkm");
        kept(2, 1, "a", "9", "b");
        kept(2, 1, "a0", "a a", "aa");
        kept(2, 0, "ab cd", "abc d");
    }

    private static void lessByEnd() {
        Check.sentence("Terms: LESS 'or it has ended there'");
        kept(2, 1, "ab", "a", "abc");
        kept(2, 0, "a", "ab", "a b");
        kept(2, 1, "abcdefghijkl", "abcdefghijk");
        kept(2, 1, "a b", "a");
    }
}
