import java.util.List;

/**
 * 'A call that is refused (an answer less than 0, or false) changes nothing.' Of two objects that
 * were brought into the same state one is asked what it must refuse; then both must answer alike,
 * whatever they are asked.
 */
public final class RefusedCallsTest {
    /** One cluster of four in which each way to keep a text chooses another record, in both fields. */
    private static final String FOUR = Talk.record("k b", "b k") + Talk.record("k b", "b k")
            + Talk.record("k long", "long k") + Talk.record("k a", "a k");
    private static final String EIGHT_MORE = Talk.record("k", "") + Talk.record("k c", "7")
            + Talk.record("", "k b") + Talk.record("d", "k") + Talk.record("d e", "") + Talk.record("e", "8")
            + "2x add\n";
    private static final String RULE = "jaccard 0 1 3; accept\n";
    private static final String DRAFT = "type 0 'Xy -z'; type 1 'u'\n";
    private static final String FULL_DRAFT = "type 0 'no more of x'; type 1 '------------'\n";
    /** Seven comparisons and six, which no join may bring together. */
    private static final String SEVEN_AND_SIX = "jaccard 0 1 3; " + "edit 1 3; join true; ".repeat(6)
            + "jaccard 1 1 3; " + "edit 0 4; join true; ".repeat(5) + "\n";
    /** Eight records and six expressions: each holds of fewer of them than all those below it. */
    private static final String STEPS = Talk.records("a b c d e f", "a b c d e", "a b c d", "a b c", "a b", "a",
            "a b c d e f", "b a c d e f");
    private static final String FULL_STACK =
            "jaccard 0 15 100; edit 0 8; jaccard 0 34 100; edit 0 4; jaccard 0 67 100; edit 0 1\n";

    private static final String BUSY_RUN = FOUR + RULE + DRAFT + "start 2; work 0; work 1; work 1\n";
    private static final String STACK_RUN = STEPS + RULE + DRAFT + "start 2; 3x work 0; work 1\n" + FULL_STACK;
    private static final String DONE_RUN = BUSY_RUN + "work 0; keep 0 1; keep 1 2\n";
    private static final String FULL_BUSY = FOUR + EIGHT_MORE + RULE + FULL_DRAFT
            + "start 3; 2x work 1; 3x work 2; keep 0 2\n";
    private static final String FULL_DONE = FOUR + EIGHT_MORE + RULE + FULL_DRAFT + "start 1; 12x work 0; keep 1 1\n";

    /** Each looks at a part of the state, some by calls that change it: hence one at a time. */
    private static final String[] PROBES = {
        // The draft, by how much more it takes and by the record that it becomes.
        "add; add; " + unitsOf(0) + unitsOf(1) + unitsOf(4) + unitsOf(11),
        "13x type 0 'q'; 13x type 1 'p'; add; records; " + unitsOf(0) + unitsOf(1) + unitsOf(4) + unitsOf(11),
        // The records.
        "records; " + textsOf(0, 12),
        unitsOf(0) + unitsOf(1) + unitsOf(2) + unitsOf(3) + unitsOf(11),
        // The rule, and the ways to keep a text.
        pairsAsked("similar") + "start 1; 12x work 0; pairs; " + clustersAsked() + keptAsked(),
        // The run.
        "pairs; " + pairsAsked("found") + clustersAsked() + keptAsked(),
        "crash 0; crash 1; crash 2; crash 3; crash 4; pairs; " + pairsAsked("found"),
        "work 0; work 1; work 2; work 3; work 4; ".repeat(13) + "pairs; " + clustersAsked() + keptAsked(),
        // The stack, from its top down to each of its expressions.
        stackAsked(0, true), stackAsked(0, false), stackAsked(1, true), stackAsked(1, false),
        stackAsked(2, true), stackAsked(2, false), stackAsked(3, true), stackAsked(3, false),
        stackAsked(4, true), stackAsked(5, true), stackAsked(6, true),
        "accept; " + pairsAsked("similar", 8),
        "7x jaccard 0 1 1; 7x discard",
        "join true; discard; accept; " + pairsAsked("similar", 8)};

    private static String unitsOf(int record) {
        StringBuilder rows = new StringBuilder();
        for (int field = 0; field < 2; field++) {
            for (int i = 0; i < 12; i++) {
                rows.append("unit " + record + " " + field + " " + i + "; ");
            }
        }
        return rows.toString();
    }

    private static String textsOf(int from, int to) {
        StringBuilder rows = new StringBuilder();
        for (int r = from; r < to; r++) {
            rows.append(Talk.each("words " + r + " #; length " + r + " #", 0, 1));
        }
        return rows.toString();
    }

    private static String pairsAsked(String call, int records) {
        StringBuilder rows = new StringBuilder();
        for (int k = 1; k < records; k++) {
            for (int j = 0; j < k; j++) {
                rows.append(call + " " + j + " " + k + "; ");
            }
        }
        return rows.toString();
    }

    private static String pairsAsked(String call) {
        return pairsAsked(call, 12);
    }

    private static String clustersAsked() {
        StringBuilder rows = new StringBuilder();
        for (int r = 0; r < 12; r++) {
            rows.append("cluster " + r + "; ");
        }
        return rows.toString();
    }

    private static String keptAsked() {
        StringBuilder rows = new StringBuilder();
        for (int r = 0; r < 12; r++) {
            rows.append(Talk.each("kept " + r + " #", 0, 1));
        }
        return rows.toString();
    }

    private static String stackAsked(int discards, boolean all) {
        String asked = "accept; " + pairsAsked("similar", 8);
        // What is left may not be driven: with a JACCARD above it, it is.
        return "discard; ".repeat(discards) + ("join " + all + "; ").repeat(6)
                + asked + "jaccard 0 1 100; join true; " + asked + "discard; discard";
    }

    private static List<Integer> answersOf(String state, String call, String probe) {
        Talk talk = new Talk(new RecordMatcher());
        talk.say(state);
        talk.probe(call);
        int before = talk.answers().size();
        talk.probe(probe);
        return talk.answers().subList(before, talk.answers().size());
    }

    /** Each row on an object of its own, with the answer that is due, and then all of the probes. */
    private static void refused(String sentence, String state, String... rows) {
        Check.sentence(sentence + " changes nothing");
        for (String row : String.join("\n", rows).split("\n+")) {
            Talk.more(state, row);
            String call = row.substring(0, row.indexOf(" = "));
            for (int i = 0; i < PROBES.length; i++) {
                List<Integer> want = answersOf(state, "", PROBES[i]);
                List<Integer> got = answersOf(state, call, PROBES[i]);
                Check.due("probe " + i + " after " + call, got.equals(want), true);
            }
        }
    }

    public static void main(String[] args) {
        probesSeeEveryChange();
        type();
        add();
        texts();
        pushes();
        join();
        accept();
        discard();
        similar();
        start();
        work();
        crash();
        lookingAtRuns();
        clusterAndKept();
        keep();
        Check.end();
    }

    /** Else a refused call that changes something would pass: each call that is not refused is seen. */
    private static void probesSeeEveryChange() {
        Check.sentence("The probes see a change");
        seen(FOUR, "type 0 'a'", "type 0 ' '", "type 1 'a'", "type 1 ' '", "add");
        seen(STACK_RUN, "type 0 'a'", "add", "discard", "join true", "join false", "start 2", "work 1", "crash 0");
        seen(BUSY_RUN + FULL_STACK, "type 0 'a'", "type 0 ' '", "type 1 'a'", "type 1 ' '", "add", "discard",
                "join true", "join false", "start 2", "start 3", "work 0", "crash 0", "crash 1", "keep 0 1",
                "keep 0 2", "keep 1 1", "keep 1 2");
        seen(DONE_RUN + SEVEN_AND_SIX, "type 0 'a'", "type 1 ' '", "add", "discard", "edit 0 0", "edit 1 8",
                "jaccard 0 1 1", "start 1", "keep 0 0", "keep 0 2", "keep 1 0", "keep 1 1");
        seen(DONE_RUN + "jaccard 0 1 1", "accept", "discard", "edit 0 8", "jaccard 1 1 1");
        seen(FULL_BUSY + "edit 0 2", "work 0", "crash 1", "crash 2", "discard", "edit 0 2", "start 3", "keep 0 0",
                "keep 0 1", "keep 1 1", "keep 1 2");
    }

    private static void seen(String state, String... calls) {
        for (String call : calls) {
            boolean seen = false;
            for (String probe : PROBES) {
                seen |= !answersOf(state, "", probe).equals(answersOf(state, call, probe));
            }
            Check.due("a difference after " + call, seen, true);
        }
    }

    private static void type() {
        refused("Promise 2: type of no field", DONE_RUN,
                Talk.each("type # 'a' = false", "-1", "2", "MIN", "MAX"));
        refused("Promise 2: type of a code above 255", BUSY_RUN,
                Talk.each("type 0 # = false\ntype 1 # = false", 256, 256 + 'a', 65535));
        refused("Promise 2: a 13th character", "type 0 'abcdefghijkl'; type 1 'a          b'",
                "type 0 'm' = false\ntype 0 ' ' = false\ntype 1 'm' = false\ntype 1 ' ' = false");
        refused("Promise 2: a 13th character of a full object", FULL_DONE, "type 0 'm' = false\ntype 1 'm' = false");
    }

    private static void add() {
        refused("Promise 3: a 13th record", FULL_DONE, "add = FULL\n2x add = FULL");
        refused("Promise 3: a 13th record while a run goes on", FULL_BUSY + FULL_STACK, "add = FULL");
    }

    private static void texts() {
        String rows = Talk.each("words # 0 = BAD\nlength # 1 = BAD\nunit # 0 0 = BAD", "-1", "4", "12", "MIN", "MAX")
                + Talk.each("words 0 # = BAD\nlength 0 # = BAD\nunit 0 # 0 = BAD", "-1", "2", "MIN", "MAX")
                + Talk.each("unit 0 0 # = BAD", "-1", "3", "12", "MIN", "MAX");
        refused("Promises 5 to 7: words, length and unit of what is not there", BUSY_RUN + FULL_STACK, rows);
    }

    private static void pushes() {
        String wrong = Talk.each("jaccard # 1 1 = false\nedit # 0 = false", "-1", "2", "MIN", "MAX")
                + "jaccard 0 0 1 = false\njaccard 0 2 1 = false\njaccard 1 1 101 = false\njaccard 0 101 101 = false\n"
                + "edit 0 -1 = false\nedit 1 9 = false\nedit 0 MIN = false\nedit 0 MAX = false";
        refused("Promises 8 and 9: a wrong JACCARD or EDIT", DONE_RUN + "jaccard 1 1 3; edit 0 1", wrong);
        refused("Promises 8 and 9: a wrong JACCARD or EDIT of an empty stack", BUSY_RUN, wrong);
        refused("Promises 8 and 9: a seventh expression", STACK_RUN,
                "jaccard 0 1 1 = false\njaccard 1 1 2 = false\nedit 0 0 = false\nedit 1 8 = false");
    }

    private static void join() {
        refused("Promise 10: join of none", DONE_RUN, "join true = false\njoin false = false");
        refused("Promise 10: join of one", BUSY_RUN + "jaccard 1 1 3", "join true = false\njoin false = false");
        refused("Promise 10: join to more than 12", DONE_RUN + SEVEN_AND_SIX,
                "join true = false\njoin false = false");
        refused("Promise 10: join to more than 12 above another one", BUSY_RUN + "edit 1 2;" + SEVEN_AND_SIX,
                "join true = false\njoin false = false");
    }

    private static void accept() {
        refused("Promise 11: accept of none", DONE_RUN, "accept = BAD");
        refused("Promise 11: accept of more than one", DONE_RUN + "jaccard 1 1 3; jaccard 0 1 1", "accept = BAD");
        refused("Promise 11: accept of six", STACK_RUN, "accept = BAD");
        refused("Promise 11: accept of what is not driven", BUSY_RUN + "edit 0 8", "accept = UNDRIVEN");
        refused("Promise 11: accept of what is not driven, of a done run", DONE_RUN
                + "jaccard 0 1 1; edit 1 0; join false", "accept = UNDRIVEN");
        refused("Promise 11: accept of what is not driven, without a rule", FOUR + "edit 0 8", "accept = UNDRIVEN");
    }

    private static void discard() {
        refused("Promise 12: discard of none", DONE_RUN, "discard = false\n2x discard = false");
        refused("Promise 12: discard of none, of a new object", "", "discard = false");
    }

    private static void similar() {
        String rows = Talk.each("similar 0 # = BAD\nsimilar # 0 = BAD", "-1", "4", "12", "MIN", "MAX")
                + "similar 1 1 = BAD";
        refused("Promise 13: similar without a rule", FOUR + DRAFT + "jaccard 0 1 1",
                "similar 0 1 = NONE\nsimilar 0 0 = NONE\nsimilar 0 9 = NONE");
        refused("Promise 13: similar of what is not there", BUSY_RUN + FULL_STACK, rows);
    }

    private static void start() {
        String rows = Talk.each("start # = BAD", "0", "5", "-1", "MIN", "MAX");
        refused("Promise 14: start without a rule", FOUR + DRAFT + "edit 0 0",
                "start 1 = NONE\nstart 4 = NONE\nstart 0 = NONE");
        refused("Promise 14: start of a wrong number, without a run", FOUR + RULE + DRAFT, rows);
        refused("Promise 14: start of a wrong number, while a run goes on", BUSY_RUN, rows);
        refused("Promise 14: start of a wrong number, of a done run", FULL_DONE, rows);
    }

    private static void work() {
        refused("Promise 15: work without a run", FOUR + RULE, "work 0 = NONE\nwork 3 = NONE\nwork -1 = NONE");
        refused("Promise 15: work of no worker", BUSY_RUN, Talk.each("work # = BAD", "-1", "2", "4", "MIN", "MAX"));
        refused("Promise 15: work of a worker whose tasks are done", BUSY_RUN, "work 1 = IDLE\n2x work 1 = IDLE");
        refused("Promise 15: work of a done run", DONE_RUN, "work 0 = IDLE\nwork 1 = IDLE\nwork 2 = BAD");
        refused("Promise 15: work of a worker without tasks", Talk.alike(2) + "start 4; work 1",
                "work 2 = IDLE\nwork 3 = IDLE");
        refused("Promise 15: work of a run without tasks", Talk.alike(0) + "start 2",
                "work 0 = IDLE\nwork 1 = IDLE\nwork 2 = BAD");
    }

    private static void crash() {
        refused("Promise 16: crash without a run", FOUR + RULE, "crash 0 = NONE\ncrash 3 = NONE\ncrash -1 = NONE");
        refused("Promise 16: crash of no worker", BUSY_RUN, Talk.each("crash # = BAD", "-1", "2", "4", "MIN", "MAX"));
        refused("Promise 16: crash of a done run", DONE_RUN, "crash 0 = IDLE\ncrash 1 = IDLE\ncrash 2 = BAD");
        refused("Promise 16: crash of a done run of a full object", FULL_DONE, "crash 0 = IDLE\ncrash 1 = BAD");
        refused("Promise 16: crash of a run without tasks", Talk.alike(0) + "start 2",
                "crash 0 = IDLE\ncrash 1 = IDLE\ncrash 2 = BAD");
    }

    private static void lookingAtRuns() {
        refused("Promise 17: pairs without a run", FOUR + RULE + DRAFT, "pairs = NONE");
        refused("Promise 18: found without a run", FOUR + RULE + DRAFT,
                "found 0 1 = NONE\nfound 0 0 = NONE\nfound -1 9 = NONE");
        refused("Promise 18: found of what is not there", BUSY_RUN,
                Talk.each("found 0 # = BAD\nfound # 0 = BAD", "-1", "4", "12", "MIN", "MAX"), "found 1 1 = BAD");
    }

    private static void clusterAndKept() {
        String rows = Talk.each("cluster # = BAD\nkept # 0 = BAD\nkept # 1 = BAD", "-1", "4", "12", "MIN", "MAX")
                + Talk.each("kept 0 # = BAD", "-1", "2", "MIN", "MAX");
        refused("Promises 19 and 21: cluster and kept without a run", FOUR + RULE + DRAFT,
                "cluster 0 = NONE\ncluster 9 = NONE\nkept 0 0 = NONE\nkept 0 2 = NONE");
        refused("Promises 19 and 21: cluster and kept of what is not there", DONE_RUN, rows);
        refused("Promises 19 and 21: cluster and kept of what is not there, while a run goes on", BUSY_RUN, rows);
        refused("Promises 19 and 21: cluster and kept while a run goes on", FULL_BUSY,
                "cluster 0 = BUSY\ncluster 11 = BUSY\nkept 0 0 = BUSY\nkept 11 1 = BUSY");
    }

    private static void keep() {
        String rows = Talk.each("keep # 0 = false\nkeep # 1 = false\nkeep # 2 = false", "-1", "2", "MIN", "MAX")
                + Talk.each("keep 0 # = false\nkeep 1 # = false", "-1", "3", "MIN", "MAX");
        refused("Promise 20: keep of no field or in no way", DONE_RUN, rows);
        refused("Promise 20: keep of no field or in no way, at first", FOUR + RULE + DRAFT, rows);
    }
}
