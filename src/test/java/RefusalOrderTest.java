/** 'Of several refusals that would hold the one that is named first is answered.' */
public final class RefusalOrderTest {
    private static final Object[] NO_WORKERS = {"-1", "4", "5", "MIN", "MAX"};
    private static final Object[] NO_RECORDS_OF_THREE = {"-1", "3", "12", "MIN", "MAX"};
    private static final Object[] NO_FIELDS = {"-1", "2", "MIN", "MAX"};

    /** Whatever ends a run, or leaves none there from the start. */
    private static final String[] NO_RUNS = {
        "",
        Talk.records("a", "a", "a"),
        Talk.alike(3),
        Talk.alike(0),
        Talk.alike(2) + "start 4; work 0; add\n",
        Talk.alike(3) + "start 4; work 0; work 1; work 2; jaccard 0 1 1; accept\n",
        Talk.alike(3) + "start 5 = BAD\n"};

    private static final String BUSY_RUN = Talk.alike(3) + "start 4; work 0; work 1\n";
    private static final String DONE_RUN = BUSY_RUN + "work 2\n";
    private static final String EMPTY_RUN = Talk.alike(0) + "start 4\n";

    public static void main(String[] args) {
        accept();
        similar();
        start();
        work();
        crash();
        found();
        cluster();
        kept();
        Check.end();
    }

    private static void accept() {
        Talk.of("Promise 11: BAD (more than one) before UNDRIVEN",
                "2x edit 0 0; accept = BAD; discard; accept = UNDRIVEN");
        Talk.more("edit 0 0; jaccard 0 1 1; accept = BAD");
        Talk.more("jaccard 0 1 1; edit 0 0; accept = BAD; discard; accept = 1");
        Talk.more("6x edit 0 0; accept = BAD; 5x discard; accept = UNDRIVEN");
        Talk.more("4x edit 0 0; 2x join false; accept = BAD; join true; accept = UNDRIVEN");
    }

    private static void similar() {
        Talk.of("Promise 13: NONE (no rule) before BAD (no such record)", Talk.records("a", "a", "a"),
                Talk.each("similar 0 # = NONE; similar # 0 = NONE; similar # # = NONE", NO_RECORDS_OF_THREE),
                "jaccard 0 1 1; accept",
                Talk.each("similar 0 # = BAD; similar # 0 = BAD; similar # # = BAD", NO_RECORDS_OF_THREE));
        Talk.more("similar 0 1 = NONE; similar 0 0 = NONE; jaccard 0 1 1; accept",
                "similar 0 1 = BAD; similar 0 0 = BAD");
        Talk.of("Promise 13: NONE (no rule) before BAD (both are the same)", Talk.records("a", "a", "a"),
                Talk.each("similar # # = NONE", 0, 1, 2), "jaccard 0 1 1; accept",
                Talk.each("similar # # = BAD", 0, 1, 2));
    }

    private static void start() {
        Object[] noNumbers = {"0", "5", "-1", "MIN", "MAX"};
        Talk.of("Promise 14: NONE (no rule) before BAD (workers)", Talk.each("start # = NONE", noNumbers),
                Talk.records("a"), Talk.each("start # = NONE", noNumbers), "edit 0 0; accept = UNDRIVEN",
                Talk.each("start # = NONE", noNumbers), "discard; jaccard 0 1 1",
                Talk.each("start # = NONE", noNumbers),
                "accept", Talk.each("start # = BAD", noNumbers));
    }

    private static void work() {
        Check.sentence("Promise 15: NONE (no run) before BAD (no such worker)");
        for (String noRun : NO_RUNS) {
            Talk.more(noRun, Talk.each("work # = NONE", NO_WORKERS), "work 0 = NONE; work 3 = NONE");
        }
        Talk.of("Promise 15: BAD (no such worker) before IDLE (all its tasks are done)", DONE_RUN,
                "work 0 = IDLE; work 3 = IDLE", Talk.each("work # = BAD", NO_WORKERS));
        Talk.more(EMPTY_RUN, "work 0 = IDLE; work 3 = IDLE", Talk.each("work # = BAD", NO_WORKERS));
        Talk.more(Talk.alike(3), "start 1; 3x work 0; work 0 = IDLE; work 1 = BAD; work 2 = BAD; work 3 = BAD");
    }

    private static void crash() {
        Check.sentence("Promise 16: NONE (no run) before BAD (no such worker)");
        for (String noRun : NO_RUNS) {
            Talk.more(noRun, Talk.each("crash # = NONE", NO_WORKERS), "crash 0 = NONE; crash 3 = NONE");
        }
        Talk.of("Promise 16: BAD (no such worker) before IDLE (the run is done)", DONE_RUN,
                "crash 0 = IDLE; crash 3 = IDLE", Talk.each("crash # = BAD", NO_WORKERS));
        Talk.more(EMPTY_RUN, "crash 0 = IDLE; crash 3 = IDLE", Talk.each("crash # = BAD", NO_WORKERS));
        Talk.more(Talk.alike(3), "start 1; 3x work 0; crash 0 = IDLE; crash 1 = BAD; crash 2 = BAD; crash 3 = BAD");
    }

    private static void found() {
        Check.sentence("Promise 18: NONE (no run) before BAD (no such record)");
        for (String noRun : NO_RUNS) {
            Talk.more(noRun,
                    Talk.each("found 0 # = NONE; found # 0 = NONE; found # # = NONE", NO_RECORDS_OF_THREE));
        }
        Check.sentence("Promise 18: NONE (no run) before BAD (both are the same)");
        for (String noRun : NO_RUNS) {
            Talk.more(noRun, Talk.each("found # # = NONE", 0, 1, 2));
        }
        Talk.more(BUSY_RUN, Talk.each("found # # = BAD", 0, 1, 2),
                Talk.each("found 0 # = BAD; found # 0 = BAD; found # # = BAD", NO_RECORDS_OF_THREE));
    }

    private static void cluster() {
        Check.sentence("Promise 19: NONE (no run) before BAD (no such record)");
        for (String noRun : NO_RUNS) {
            Talk.more(noRun, Talk.each("cluster # = NONE", NO_RECORDS_OF_THREE));
        }
        Talk.of("Promise 19: NONE (no run) before BUSY (the run is not done)", Talk.alike(3),
                "start 2; work 0; cluster 0 = BUSY; add; cluster 0 = NONE; cluster 3 = NONE");
        Talk.of("Promise 19: BAD (no such record) before BUSY (the run is not done)", BUSY_RUN, "cluster 0 = BUSY",
                Talk.each("cluster # = BAD", NO_RECORDS_OF_THREE), "work 2; cluster 0 = 0",
                Talk.each("cluster # = BAD", NO_RECORDS_OF_THREE));
    }

    private static void kept() {
        Check.sentence("Promise 21: NONE (no run) before BAD (no such record or field)");
        for (String noRun : NO_RUNS) {
            Talk.more(noRun, Talk.each("kept # 0 = NONE; kept # 1 = NONE; kept # 2 = NONE", NO_RECORDS_OF_THREE),
                    Talk.each("kept 0 # = NONE; kept 2 # = NONE; kept 3 # = NONE", NO_FIELDS));
        }
        Talk.of("Promise 21: NONE (no run) before BUSY (the run is not done)", Talk.alike(3),
                "start 2; work 0; kept 0 0 = BUSY; jaccard 0 1 1; accept; kept 0 0 = NONE; kept 2 1 = NONE");
        Talk.of("Promise 21: BAD (no such record) before BUSY (the run is not done)", BUSY_RUN,
                "kept 0 0 = BUSY; kept 2 1 = BUSY",
                Talk.each("kept # 0 = BAD; kept # 1 = BAD; kept # 2 = BAD", NO_RECORDS_OF_THREE));
        Talk.of("Promise 21: BAD (no such field) before BUSY (the run is not done)", BUSY_RUN,
                Talk.each("kept 0 # = BAD; kept 2 # = BAD; kept 3 # = BAD", NO_FIELDS),
                "kept 0 0 = BUSY; kept 2 1 = BUSY");
    }
}
