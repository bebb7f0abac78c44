/** Promises 19 (cluster), 20 (keep) and 21 (kept). */
public final class ClusterTest {
    public static void main(String[] args) {
        clustersByWays();
        clustersNeedFoundPairs();
        clusterRefusals();
        keepArguments();
        keepIsOfOneField();
        keepStays();
        keptLongest();
        keptCommonest();
        keptLeast();
        keptOfManyClusters();
        keptRefusals();
        Check.end();
    }

    private static void clusters(String[] texts, int[] wanted) {
        RecordMatcher x = Check.withTexts(texts);
        Check.acceptJaccard(x, 0, 1, 100);
        for (int workers = 1; workers <= 4; workers++) {
            Check.runAll(x, workers);
            for (int r = 0; r < texts.length; r++) {
                Check.due("cluster(" + r + ") with " + workers, x.cluster(r), wanted[r]);
            }
        }
    }

    /** A common word makes a pair; a way from one record to another may go up and down. */
    private static void clustersByWays() {
        clusters(new String[] {"a"}, new int[] {0});
        clusters(new String[] {"a", "b"}, new int[] {0, 1});
        clusters(new String[] {"", ""}, new int[] {0, 1});
        clusters(new String[] {"a", "a b", "b c", "c"}, new int[] {0, 0, 0, 0});
        clusters(new String[] {"a", "b", "c", "a b c"}, new int[] {0, 0, 0, 0});
        clusters(new String[] {"a", "b", "c", "b c"}, new int[] {0, 1, 1, 1});
        clusters(new String[] {"a", "c", "b", "a b", "b c"}, new int[] {0, 0, 0, 0, 0});
        clusters(new String[] {"d", "c", "b", "a", "b c", "a d", "", "e"},
                new int[] {0, 1, 1, 0, 1, 0, 6, 7});
        clusters(new String[] {"a", "b", "c", "d", "c d", "a b", "b d"},
                new int[] {0, 0, 0, 0, 0, 0, 0});
        clusters(new String[] {"a", "b", "c", "d", "e", "f", "g", "f g", "e f", "d e", "c d", "b c"},
                new int[] {0, 1, 1, 1, 1, 1, 1, 1, 1, 1, 1, 1});
        clusters(new String[] {"l", "k", "j", "i", "h", "g", "l k", "j i", "h g", "k j", "i h", "l g"},
                new int[] {0, 0, 0, 0, 0, 0, 0, 0, 0, 0, 0, 0});
        clusters(new String[] {"a b", "b c", "c d", "d e", "e f", "f g", "g h", "h i", "i j", "j k",
                "k l", "l m"}, new int[12]);
    }

    private static void clustersNeedFoundPairs() {
        RecordMatcher x = Check.withTexts("a b", "b c", "c a");
        Check.acceptJaccard(x, 0, 1, 1);
        Check.runAll(x, 2);
        for (int r = 0; r < 3; r++) {
            Check.due("cluster(" + r + ")", x.cluster(r), r);
        }
        Check.acceptJaccard(x, 0, 1, 3);
        Check.runAll(x, 2);
        for (int r = 0; r < 3; r++) {
            Check.due("cluster(" + r + ")", x.cluster(r), 0);
        }
    }

    private static void clusterRefusals() {
        RecordMatcher x = Check.withTexts("a", "a", "b");
        Check.acceptJaccard(x, 0, 1, 1);
        int[] none = {-1, 3, 4, 11, 12, 13, Integer.MIN_VALUE, Integer.MAX_VALUE};
        Check.due("start(2)", x.start(2), 3);
        for (int done = 0; done < 3; done++) {
            for (int record : none) {
                Check.due("cluster(" + record + ") of a run", x.cluster(record), RecordMatcher.BAD);
            }
            for (int r = 0; r < 3; r++) {
                Check.due("cluster(" + r + ") of a run", x.cluster(r), RecordMatcher.BUSY);
            }
            x.work(done % 2);
        }
        for (int record : none) {
            Check.due("cluster(" + record + ") of a done run", x.cluster(record), RecordMatcher.BAD);
        }
        Check.due("cluster(0)", x.cluster(0), 0);
        Check.due("cluster(1)", x.cluster(1), 0);
        Check.due("cluster(2)", x.cluster(2), 2);
        Check.due("pairs()", x.pairs(), 1);
    }

    /** An object whose records all have the word k in field 0 and these texts in field 1, run. */
    private static RecordMatcher oneCluster(String... texts) {
        RecordMatcher x = new RecordMatcher();
        for (int r = 0; r < texts.length; r++) {
            Check.add(x, r, "k", texts[r]);
        }
        Check.acceptJaccard(x, 0, 1, 1);
        Check.runAll(x, 1);
        return x;
    }

    private static void kept(int how, int want, String... texts) {
        RecordMatcher x = oneCluster(texts);
        Check.due("keep(1, " + how + ")", x.keep(1, how), true);
        for (int r = 0; r < texts.length; r++) {
            Check.due("kept(" + r + ", 1) in way " + how + " of " + String.join("/", texts),
                    x.kept(r, 1), want);
            Check.due("kept(" + r + ", 0)", x.kept(r, 0), 0);
        }
    }

    private static void keepArguments() {
        RecordMatcher x = oneCluster("b", "b", "long", "a");
        int[] noWays = {-1, 3, 4, Integer.MIN_VALUE, Integer.MAX_VALUE};
        int[] noFields = {-1, 2, 3, Integer.MIN_VALUE, Integer.MAX_VALUE};
        int[] wanted = {2, 0, 3};
        for (int how = 0; how < 3; how++) {
            Check.due("keep(0, " + how + ")", x.keep(0, how), true);
            Check.due("keep(1, " + how + ")", x.keep(1, how), true);
            for (int wrong : noWays) {
                Check.due("keep(0, " + wrong + ")", x.keep(0, wrong), false);
                Check.due("keep(1, " + wrong + ")", x.keep(1, wrong), false);
            }
            for (int wrong : noFields) {
                Check.due("keep(" + wrong + ", " + (2 - how) + ")", x.keep(wrong, 2 - how), false);
            }
            Check.due("kept(0, 1) in way " + how, x.kept(0, 1), wanted[how]);
        }
        Check.due("pairs() after keep", x.pairs(), 6);
    }

    private static void keepIsOfOneField() {
        RecordMatcher x = new RecordMatcher();
        Check.add(x, 0, "k b", "k b");
        Check.add(x, 1, "k b", "k b");
        Check.add(x, 2, "k long", "k long");
        Check.add(x, 3, "k a", "k a");
        Check.acceptJaccard(x, 0, 1, 3);
        Check.runAll(x, 2);
        int[] wanted = {2, 0, 3};
        for (int first = 0; first < 3; first++) {
            for (int second = 0; second < 3; second++) {
                Check.due("keep(0, " + first + ")", x.keep(0, first), true);
                Check.due("keep(1, " + second + ")", x.keep(1, second), true);
                for (int r = 0; r < 4; r++) {
                    Check.due("kept(" + r + ", 0)", x.kept(r, 0), wanted[first]);
                    Check.due("kept(" + r + ", 1)", x.kept(r, 1), wanted[second]);
                }
            }
        }
    }

    /** A way is set before there is anything else, and stays through records, rules and runs. */
    private static void keepStays() {
        RecordMatcher x = new RecordMatcher();
        Check.due("keep(0, 2)", x.keep(0, 2), true);
        Check.due("keep(1, 1)", x.keep(1, 1), true);
        Check.add(x, 0, "k b", "k long");
        Check.add(x, 1, "k a", "k b");
        Check.acceptJaccard(x, 0, 1, 3);
        Check.runAll(x, 2);
        Check.due("kept(0, 0)", x.kept(0, 0), 1);
        Check.due("kept(0, 1)", x.kept(0, 1), 0);
        Check.add(x, 2, "k", "k b");
        Check.acceptJaccard(x, 1, 1, 3);
        Check.due("start(1)", x.start(1), 3);
        Check.workAll(x, 1);
        Check.due("kept(0, 0)", x.kept(0, 0), 2);
        Check.due("kept(0, 1)", x.kept(0, 1), 1);
    }

    private static void keptLongest() {
        kept(0, 0, "a");
        kept(0, 0, "");
        kept(0, 0, "", "", "");
        kept(0, 1, "", "a", "");
        kept(0, 1, "a", "bb", "c");
        kept(0, 0, "bb", "aa", "cc");
        kept(0, 1, "a", "cc", "bb", "cc");
        kept(0, 2, "a", "bb", "ccc", "dd");
        kept(0, 3, "z", "z", "z", "a b");
        // The normal texts are measured, not the typed ones.
        kept(0, 1, "a--------b", "abcd", "A  B");
        kept(0, 0, "AB", "a-", "ab");
        kept(0, 1, "x", "abcdefghijkl", "ABCDEFGHIJKL", "abcdefghijkk");
        kept(0, 11, "a", "b", "c", "d", "e", "f", "g", "h", "i", "j", "k", "lm");
    }

    private static void keptCommonest() {
        kept(1, 0, "a");
        kept(1, 0, "");
        kept(1, 0, "", "");
        kept(1, 1, "", "a", "");
        kept(1, 3, "", "", "", "a");
        kept(1, 0, "a", "", "", "");
        kept(1, 0, "b", "a");
        kept(1, 1, "b", "a", "a");
        kept(1, 1, "c", "b", "a", "b");
        kept(1, 0, "b", "a", "a", "b");
        kept(1, 0, "b", "a", "b", "a");
        kept(1, 1, "long one", "A", "b", "-a");
        kept(1, 2, "a", "a", "b", "b", "b");
        kept(1, 0, "a b", "b a", "a  b", "b-a", "A B");
        kept(1, 1, "", "b", "", "a", "", "b", "a");
        kept(1, 1, "x", "a", "", "", "", "a", "ab", "a b", "abc");
        kept(1, 0, "a", "ab", "abc", "abcd");
        kept(1, 1, "x", "abcdefghijkl", "ABCDEFGHIJKL", "abcdefghijkm");
        kept(1, 6, "a", "b", "c", "d", "e", "f", "g", "h", "i", "j", "k", "g");
    }

    private static void keptLeast() {
        kept(2, 0, "a");
        kept(2, 0, "");
        kept(2, 0, "", "");
        kept(2, 1, "", "b", "");
        kept(2, 2, "", "b", "a", "c");
        kept(2, 0, "a", "", "b");
        kept(2, 1, "b", "a", "a");
        kept(2, 2, "c", "b", "A", "a");
        kept(2, 1, "ab", "a", "abc");
        kept(2, 0, "a", "ab", "abc");
        kept(2, 1, "ab", "a b", "abc");
        kept(2, 1, "a b", "a");
        kept(2, 1, "b", "ac", "ad");
        kept(2, 2, "b", "ad", "ac");
        kept(2, 1, "a", "9", "b");
        kept(2, 1, "a1", "a 1", "a0");
        kept(2, 2, "aa", "ab", "a0");
        kept(2, 1, "b", "AZ", "azz");
        kept(2, 2, "abcdefghijkl", "abcdefghijkm", "abcdefghijkk");
        kept(2, 1, "x", "abcdefghijkl", "ABCDEFGHIJKL", "abcdefghijkm");
        kept(2, 1, "10", "1", "2");
        kept(2, 11, "l", "k", "j", "i", "h", "g", "f", "e", "d", "c", "b", "a");
    }

    /** Texts of other clusters are neither chosen nor counted. */
    private static void keptOfManyClusters() {
        RecordMatcher x = new RecordMatcher();
        Check.add(x, 0, "p", "longest");
        Check.add(x, 1, "q", "b");
        Check.add(x, 2, "p", "c");
        Check.add(x, 3, "q", "long");
        Check.add(x, 4, "q", "c");
        Check.add(x, 5, "p", "c");
        Check.add(x, 6, "r", "");
        Check.add(x, 7, "q", "b");
        Check.add(x, 8, "s", "c");
        Check.add(x, 9, "s", "a");
        Check.acceptJaccard(x, 0, 1, 1);
        Check.runAll(x, 4);
        int[] clusters = {0, 1, 0, 1, 1, 0, 6, 1, 8, 8};
        int[][] wanted = {
                {0, 3, 0, 3, 3, 0, 6, 3, 8, 8},
                {2, 1, 2, 1, 1, 2, 6, 1, 8, 8},
                {2, 1, 2, 1, 1, 2, 6, 1, 9, 9}};
        for (int how = 0; how < 3; how++) {
            Check.due("keep(1, " + how + ")", x.keep(1, how), true);
            for (int r = 0; r < 10; r++) {
                Check.due("cluster(" + r + ")", x.cluster(r), clusters[r]);
                Check.due("kept(" + r + ", 1) in way " + how, x.kept(r, 1), wanted[how][r]);
                Check.due("kept(" + r + ", 0)", x.kept(r, 0), clusters[r]);
            }
        }
    }

    private static void keptRefusals() {
        RecordMatcher x = Check.withTexts("a", "a", "b");
        Check.acceptJaccard(x, 0, 1, 1);
        Check.due("start(1)", x.start(1), 3);
        int[] noRecords = {-1, 3, 4, 12, 13, Integer.MIN_VALUE, Integer.MAX_VALUE};
        int[] noFields = {-1, 2, 3, Integer.MIN_VALUE, Integer.MAX_VALUE};
        for (int done = 0; done <= 3; done++) {
            for (int record : noRecords) {
                Check.due("kept(" + record + ", 0)", x.kept(record, 0), RecordMatcher.BAD);
                Check.due("kept(" + record + ", 1)", x.kept(record, 1), RecordMatcher.BAD);
            }
            for (int field : noFields) {
                Check.due("kept(0, " + field + ")", x.kept(0, field), RecordMatcher.BAD);
                Check.due("kept(2, " + field + ")", x.kept(2, field), RecordMatcher.BAD);
            }
            for (int r = 0; r < 3 && done < 3; r++) {
                Check.due("kept(" + r + ", 0) of a run", x.kept(r, 0), RecordMatcher.BUSY);
                Check.due("kept(" + r + ", 1) of a run", x.kept(r, 1), RecordMatcher.BUSY);
            }
            x.work(0);
        }
        Check.due("kept(1, 0)", x.kept(1, 0), 0);
        Check.due("kept(2, 0)", x.kept(2, 0), 2);
        Check.due("kept(1, 1)", x.kept(1, 1), 0);
    }
}
