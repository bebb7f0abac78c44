/** Promises 14 (start), 15 (work), 16 (crash), 17 (pairs) and 18 (found). */
public final class RunTest {
    public static void main(String[] args) {
        startRefusals();
        startAnew();
        refusedStartLeavesTheRun();
        runEndsWithRecordOrRule();
        runWithoutRecords();
        tasksOfWorkers();
        workersWithoutTasks();
        workRefusals();
        workFindsPairs();
        crashUndoesOneWorker();
        crashBeforeAnything();
        crashRefusals();
        crashAfterIdleWorker();
        pairsAndFoundOnTheWay();
        foundRefusals();
        Check.end();
    }

    /** Records of which all are alike. */
    private static RecordMatcher alike(int count) {
        RecordMatcher x = new RecordMatcher();
        for (int r = 0; r < count; r++) {
            Check.add(x, r, "a", "");
        }
        Check.acceptJaccard(x, 0, 1, 1);
        return x;
    }

    private static void startRefusals() {
        int[] wrong = {0, -1, 5, 6, Integer.MIN_VALUE, Integer.MAX_VALUE};
        RecordMatcher x = Check.withTexts("a", "b");
        for (int workers : wrong) {
            Check.due("start(" + workers + ") without a rule", x.start(workers), RecordMatcher.NONE);
        }
        for (int workers = 1; workers <= 4; workers++) {
            Check.due("start(" + workers + ") without a rule", x.start(workers), RecordMatcher.NONE);
        }
        Check.acceptJaccard(x, 0, 1, 1);
        for (int workers : wrong) {
            Check.due("start(" + workers + ")", x.start(workers), RecordMatcher.BAD);
            Check.due("pairs() after BAD", x.pairs(), RecordMatcher.NONE);
        }
        for (int workers = 1; workers <= 4; workers++) {
            Check.due("start(" + workers + ")", x.start(workers), 2);
            Check.due("work of the last worker", x.work(workers - 1),
                    workers <= 2 ? 0 : RecordMatcher.IDLE);
            Check.due("work behind the last worker", x.work(workers), RecordMatcher.BAD);
        }
    }

    private static void startAnew() {
        RecordMatcher x = alike(5);
        Check.runAll(x, 2);
        Check.due("pairs()", x.pairs(), 10);
        Check.due("cluster(4)", x.cluster(4), 0);
        Check.due("start(3)", x.start(3), 5);
        Check.due("pairs() after start", x.pairs(), 0);
        Check.due("cluster(4) after start", x.cluster(4), RecordMatcher.BUSY);
        for (int r = 1; r < 5; r++) {
            Check.due("found(0, " + r + ") after start", x.found(0, r), 0);
            Check.due("found(" + r + ", " + (r - 1) + ") after start", x.found(r, r - 1), 0);
        }
        Check.due("work(2)", x.work(2), 2);
        Check.due("work(2)", x.work(2), RecordMatcher.IDLE);
        Check.due("start(1)", x.start(1), 5);
        Check.due("pairs() after start", x.pairs(), 0);
        for (int r = 0; r < 5; r++) {
            Check.due("work(0)", x.work(0), r);
        }
        Check.due("work(0)", x.work(0), RecordMatcher.IDLE);
        Check.due("start(4)", x.start(4), 5);
        Check.due("crash(3) after start", x.crash(3), 0);
        Check.due("work(3)", x.work(3), 3);
        Check.due("work(1)", x.work(1), 1);
    }

    private static void refusedStartLeavesTheRun() {
        RecordMatcher x = alike(3);
        Check.due("start(2)", x.start(2), 3);
        Check.due("work(1)", x.work(1), 1);
        Check.due("start(5)", x.start(5), RecordMatcher.BAD);
        Check.due("start(0)", x.start(0), RecordMatcher.BAD);
        Check.due("pairs()", x.pairs(), 1);
        Check.due("work(1)", x.work(1), RecordMatcher.IDLE);
        Check.due("work(0)", x.work(0), 0);
        Check.due("work(0)", x.work(0), 2);
        Check.due("pairs()", x.pairs(), 3);
    }

    private static void noRun(RecordMatcher x) {
        Check.due("work(0) without a run", x.work(0), RecordMatcher.NONE);
        Check.due("work(9) without a run", x.work(9), RecordMatcher.NONE);
        Check.due("crash(0) without a run", x.crash(0), RecordMatcher.NONE);
        Check.due("crash(-1) without a run", x.crash(-1), RecordMatcher.NONE);
        Check.due("pairs() without a run", x.pairs(), RecordMatcher.NONE);
        Check.due("found(0, 1) without a run", x.found(0, 1), RecordMatcher.NONE);
        Check.due("found(0, 0) without a run", x.found(0, 0), RecordMatcher.NONE);
        Check.due("found(0, 99) without a run", x.found(0, 99), RecordMatcher.NONE);
        Check.due("cluster(0) without a run", x.cluster(0), RecordMatcher.NONE);
        Check.due("cluster(99) without a run", x.cluster(99), RecordMatcher.NONE);
        Check.due("kept(0, 0) without a run", x.kept(0, 0), RecordMatcher.NONE);
        Check.due("kept(0, 9) without a run", x.kept(0, 9), RecordMatcher.NONE);
    }

    private static void runEndsWithRecordOrRule() {
        RecordMatcher x = alike(2);
        noRun(x);
        Check.runAll(x, 1);
        Check.due("pairs()", x.pairs(), 1);
        Check.add(x, 2, "a", "");
        noRun(x);
        Check.due("similar(0, 2)", x.similar(0, 2), 1);
        Check.due("start(2)", x.start(2), 3);
        Check.due("work(0)", x.work(0), 0);
        Check.add(x, 3, "a", "");
        noRun(x);
        Check.runAll(x, 3);
        Check.due("pairs()", x.pairs(), 6);
        Check.acceptJaccard(x, 1, 1, 1);
        noRun(x);
        Check.runAll(x, 3);
        Check.due("pairs() by the new rule", x.pairs(), 0);
        Check.due("start(1)", x.start(1), 4);
        Check.acceptJaccard(x, 0, 1, 1);
        noRun(x);
    }

    private static void runWithoutRecords() {
        for (int workers = 1; workers <= 4; workers++) {
            RecordMatcher x = new RecordMatcher();
            Check.acceptJaccard(x, 0, 1, 1);
            Check.due("start() without records", x.start(workers), 0);
            Check.due("pairs() without records", x.pairs(), 0);
            for (int w = 0; w < workers; w++) {
                Check.due("work() without records", x.work(w), RecordMatcher.IDLE);
                Check.due("crash() without records", x.crash(w), RecordMatcher.IDLE);
            }
            Check.due("work() of no worker", x.work(workers), RecordMatcher.BAD);
            Check.due("crash() of no worker", x.crash(workers), RecordMatcher.BAD);
            Check.due("found(0, 1) without records", x.found(0, 1), RecordMatcher.BAD);
            Check.due("cluster(0) without records", x.cluster(0), RecordMatcher.BAD);
            Check.due("kept(0, 0) without records", x.kept(0, 0), RecordMatcher.BAD);
        }
    }

    /** All are alike, so task r finds r pairs: the answers tell which task was done. */
    private static void tasksOfWorkers() {
        for (int count = 1; count <= 12; count++) {
            RecordMatcher x = alike(count);
            for (int workers = 1; workers <= 4; workers++) {
                Check.due("start(" + workers + ")", x.start(workers), count);
                int sum = 0;
                for (int w = workers - 1; w >= 0; w--) {
                    for (int r = w; r < count; r += workers) {
                        Check.due("work(" + w + ") of " + workers, x.work(w), r);
                        sum += r;
                    }
                    Check.due("work(" + w + ") of " + workers, x.work(w), RecordMatcher.IDLE);
                    Check.due("pairs()", x.pairs(), sum);
                }
                Check.due("cluster(" + (count - 1) + ")", x.cluster(count - 1), 0);
            }
        }
    }

    private static void workersWithoutTasks() {
        RecordMatcher x = alike(2);
        Check.due("start(4)", x.start(4), 2);
        Check.due("work(2)", x.work(2), RecordMatcher.IDLE);
        Check.due("work(3)", x.work(3), RecordMatcher.IDLE);
        Check.due("crash(3) while others work", x.crash(3), 0);
        Check.due("work(1)", x.work(1), 1);
        Check.due("cluster(0)", x.cluster(0), RecordMatcher.BUSY);
        Check.due("work(0)", x.work(0), 0);
        Check.due("cluster(0)", x.cluster(0), 0);
        Check.due("crash(3) of a done run", x.crash(3), RecordMatcher.IDLE);
    }

    private static void workRefusals() {
        RecordMatcher x = alike(4);
        int[] none = {-1, 2, 3, 4, 5, Integer.MIN_VALUE, Integer.MAX_VALUE};
        Check.due("start(2)", x.start(2), 4);
        for (int worker : none) {
            Check.due("work(" + worker + ")", x.work(worker), RecordMatcher.BAD);
        }
        Check.due("pairs()", x.pairs(), 0);
        Check.workAll(x, 2);
        for (int worker : none) {
            Check.due("work(" + worker + ") of a done run", x.work(worker), RecordMatcher.BAD);
        }
        Check.due("work(0) of a done run", x.work(0), RecordMatcher.IDLE);
        Check.due("work(1) of a done run", x.work(1), RecordMatcher.IDLE);
        Check.due("pairs()", x.pairs(), 6);
    }

    private static void workFindsPairs() {
        RecordMatcher x = Check.withTexts("a", "b", "a b", "c", "b c", "");
        Check.acceptJaccard(x, 0, 1, 2);
        int[] wanted = {0, 0, 2, 0, 2, 0};
        Check.due("start(1)", x.start(1), 6);
        for (int r = 0; r < 6; r++) {
            Check.due("work(0) as task " + r, x.work(0), wanted[r]);
        }
        Check.due("pairs()", x.pairs(), 4);
        int[] linked = {0, 2, 1, 2, 1, 4, 3, 4};
        for (int j = 0; j < 6; j++) {
            for (int k = 0; k < 6; k++) {
                int want = j == k ? RecordMatcher.BAD : 0;
                for (int i = 0; i < linked.length; i += 2) {
                    if (linked[i] == Math.min(j, k) && linked[i + 1] == Math.max(j, k)) {
                        want = 1;
                    }
                }
                Check.due("found(" + j + ", " + k + ")", x.found(j, k), want);
            }
        }
    }

    private static void crashUndoesOneWorker() {
        RecordMatcher x = alike(7);
        Check.due("start(2)", x.start(2), 7);
        for (int r = 0; r < 6; r++) {
            Check.due("work", x.work(r % 2), r);
        }
        Check.due("pairs()", x.pairs(), 15);
        Check.due("crash(1)", x.crash(1), 3);
        Check.due("pairs() after crash(1)", x.pairs(), 6);
        for (int k = 1; k < 7; k++) {
            for (int j = 0; j < k; j++) {
                int want = k % 2 == 0 && k < 6 ? 1 : 0;
                Check.due("found(" + j + ", " + k + ")", x.found(j, k), want);
            }
        }
        Check.due("crash(1) again", x.crash(1), 0);
        Check.due("work(0)", x.work(0), 6);
        Check.due("work(0)", x.work(0), RecordMatcher.IDLE);
        Check.due("cluster(0)", x.cluster(0), RecordMatcher.BUSY);
        Check.due("work(1)", x.work(1), 1);
        Check.due("work(1)", x.work(1), 3);
        Check.due("crash(0)", x.crash(0), 4);
        Check.due("pairs() after crash(0)", x.pairs(), 4);
        Check.workAll(x, 2);
        Check.due("pairs()", x.pairs(), 21);
        Check.due("cluster(6)", x.cluster(6), 0);
    }

    private static void crashBeforeAnything() {
        RecordMatcher x = alike(3);
        Check.due("start(3)", x.start(3), 3);
        for (int w = 0; w < 3; w++) {
            Check.due("crash(" + w + ")", x.crash(w), 0);
        }
        Check.due("work(2)", x.work(2), 2);
        Check.due("crash(0)", x.crash(0), 0);
        Check.due("pairs()", x.pairs(), 2);
        Check.due("crash(2)", x.crash(2), 1);
        Check.due("pairs()", x.pairs(), 0);
        Check.due("work(2)", x.work(2), 2);
    }

    private static void crashRefusals() {
        RecordMatcher x = alike(3);
        int[] none = {-1, 2, 3, 4, 5, Integer.MIN_VALUE, Integer.MAX_VALUE};
        Check.due("start(2)", x.start(2), 3);
        Check.due("work(1)", x.work(1), 1);
        for (int worker : none) {
            Check.due("crash(" + worker + ")", x.crash(worker), RecordMatcher.BAD);
        }
        Check.due("pairs()", x.pairs(), 1);
        Check.workAll(x, 2);
        for (int worker : none) {
            Check.due("crash(" + worker + ") of a done run", x.crash(worker), RecordMatcher.BAD);
        }
        Check.due("crash(0) of a done run", x.crash(0), RecordMatcher.IDLE);
        Check.due("crash(1) of a done run", x.crash(1), RecordMatcher.IDLE);
        Check.due("pairs() after IDLE", x.pairs(), 3);
        Check.due("cluster(2) after IDLE", x.cluster(2), 0);
        Check.due("work(0) after IDLE", x.work(0), RecordMatcher.IDLE);
    }

    /** A worker that has done all its tasks may crash as long as another one has not. */
    private static void crashAfterIdleWorker() {
        RecordMatcher x = alike(4);
        Check.due("start(2)", x.start(2), 4);
        Check.due("work(0)", x.work(0), 0);
        Check.due("work(0)", x.work(0), 2);
        Check.due("work(0)", x.work(0), RecordMatcher.IDLE);
        Check.due("crash(0)", x.crash(0), 2);
        Check.due("pairs()", x.pairs(), 0);
        Check.due("work(0)", x.work(0), 0);
        Check.due("work(0)", x.work(0), 2);
        Check.due("work(1)", x.work(1), 1);
        Check.due("work(1)", x.work(1), 3);
        Check.due("crash(0) of a done run", x.crash(0), RecordMatcher.IDLE);
    }

    private static void pairsAndFoundOnTheWay() {
        RecordMatcher x = Check.withTexts("a", "b", "a", "b", "a");
        Check.acceptJaccard(x, 0, 1, 1);
        Check.due("start(3)", x.start(3), 5);
        Check.due("pairs()", x.pairs(), 0);
        Check.due("found(0, 2)", x.found(0, 2), 0);
        Check.due("similar(0, 2)", x.similar(0, 2), 1);
        Check.due("work(2)", x.work(2), 1);
        Check.due("found(0, 2)", x.found(0, 2), 1);
        Check.due("found(2, 0)", x.found(2, 0), 1);
        Check.due("found(2, 4)", x.found(2, 4), 0);
        Check.due("work(1)", x.work(1), 0);
        Check.due("work(1)", x.work(1), 2);
        Check.due("found(2, 4)", x.found(2, 4), 1);
        Check.due("found(4, 0)", x.found(4, 0), 1);
        Check.due("found(4, 1)", x.found(4, 1), 0);
        Check.due("found(3, 1)", x.found(3, 1), 0);
        Check.due("pairs()", x.pairs(), 3);
        Check.due("similar(0, 1)", x.similar(0, 1), 0);
        Check.due("pairs() after similar", x.pairs(), 3);
    }

    private static void foundRefusals() {
        RecordMatcher x = alike(3);
        Check.due("start(1)", x.start(1), 3);
        int[] none = {-1, 3, 4, 11, 12, 13, Integer.MIN_VALUE, Integer.MAX_VALUE};
        for (int done = 0; done <= 3; done++) {
            for (int record : none) {
                Check.due("found(0, " + record + ")", x.found(0, record), RecordMatcher.BAD);
                Check.due("found(" + record + ", 1)", x.found(record, 1), RecordMatcher.BAD);
                Check.due("found(" + record + ", " + record + ")", x.found(record, record),
                        RecordMatcher.BAD);
            }
            for (int r = 0; r < 3; r++) {
                Check.due("found(" + r + ", " + r + ")", x.found(r, r), RecordMatcher.BAD);
            }
            Check.due("work(0)", x.work(0), done < 3 ? done : RecordMatcher.IDLE);
        }
    }
}
