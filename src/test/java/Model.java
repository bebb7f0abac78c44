import java.util.ArrayList;
import java.util.Collections;
import java.util.HashSet;
import java.util.List;
import java.util.Set;
import java.util.TreeSet;

/**
 * The document's words in the most literal form: texts are kept as they were typed, and all else is
 * worked out anew whenever it is asked for. Slow, and like RecordMatcher in nothing but its answers.
 */
final class Model {
    private static final int BAD = -1;
    private static final int FULL = -2;
    private static final int UNDRIVEN = -3;
    private static final int NONE = -4;
    private static final int IDLE = -5;
    private static final int BUSY = -6;

    /** One JACCARD or EDIT, or an AND or OR of two parts. */
    private record Expression(String kind, int field, int a, int b, Expression left, Expression right) {
        int leaves() {
            return left == null ? 1 : left.leaves() + right.leaves();
        }

        boolean driven() {
            return switch (kind) {
                case "JACCARD" -> true;
                case "EDIT" -> false;
                case "AND" -> left.driven() || right.driven();
                default -> left.driven() && right.driven();
            };
        }

        boolean holds(String[] j, String[] k) {
            return switch (kind) {
                case "JACCARD" -> jaccardHolds(j[field], k[field]);
                case "EDIT" -> distance(normal(j[field]), normal(k[field])) <= a;
                case "AND" -> left.holds(j, k) & right.holds(j, k);
                default -> left.holds(j, k) | right.holds(j, k);
            };
        }

        private boolean jaccardHolds(String one, String other) {
            Set<String> both = new HashSet<>(wordsOf(one));
            both.retainAll(wordsOf(other));
            Set<String> either = new HashSet<>(wordsOf(one));
            either.addAll(wordsOf(other));
            return either.size() > 0 && both.size() * b >= a * either.size();
        }
    }

    private final String[] draft = {"", ""};
    private final List<String[]> records = new ArrayList<>();
    private final List<Expression> stack = new ArrayList<>();
    private final int[] ways = {0, 0};
    private Expression rule;
    private int workers;
    private boolean running;
    private final Set<Integer> doneTasks = new TreeSet<>();

    static List<String> wordsOf(String text) {
        List<String> words = new ArrayList<>();
        for (String word : text.split("[^a-zA-Z0-9]+")) {
            if (!word.isEmpty()) {
                words.add(word.toLowerCase(java.util.Locale.ROOT));
            }
        }
        return words;
    }

    static String normal(String text) {
        return String.join(" ", wordsOf(text));
    }

    static int distance(String from, String to) {
        int[][] steps = new int[from.length() + 1][to.length() + 1];
        for (int i = from.length(); i >= 0; i--) {
            for (int j = to.length(); j >= 0; j--) {
                int best = from.length() - i + to.length() - j;
                if (i < from.length() && j < to.length()) {
                    int change = from.charAt(i) == to.charAt(j) ? 0 : 1;
                    best = Math.min(best, steps[i + 1][j + 1] + change);
                    best = Math.min(best, steps[i + 1][j] + 1);
                    best = Math.min(best, steps[i][j + 1] + 1);
                }
                steps[i][j] = best;
            }
        }
        return steps[0][0];
    }

    private boolean isField(int field) {
        return field == 0 || field == 1;
    }

    private boolean isRecord(int record) {
        return record >= 0 && record < records.size();
    }

    boolean type(int field, char c) {
        if (!isField(field) || c > 255 || draft[field].length() == 12) {
            return false;
        }
        draft[field] += c;
        return true;
    }

    int add() {
        if (records.size() == 12) {
            return FULL;
        }
        records.add(draft.clone());
        draft[0] = "";
        draft[1] = "";
        running = false;
        return records.size() - 1;
    }

    int records() {
        return records.size();
    }

    int words(int record, int field) {
        return isRecord(record) && isField(field)
                ? new HashSet<>(wordsOf(records.get(record)[field])).size() : BAD;
    }

    int length(int record, int field) {
        return isRecord(record) && isField(field) ? normal(records.get(record)[field]).length() : BAD;
    }

    int unit(int record, int field, int i) {
        return i >= 0 && i < length(record, field) ? normal(records.get(record)[field]).charAt(i) : BAD;
    }

    private boolean push(Expression expression) {
        return stack.size() < 6 && stack.add(expression);
    }

    boolean jaccard(int field, int num, int den) {
        return isField(field) && 1 <= num && num <= den && den <= 100
                && push(new Expression("JACCARD", field, num, den, null, null));
    }

    boolean edit(int field, int d) {
        return isField(field) && 0 <= d && d <= 8
                && push(new Expression("EDIT", field, d, 0, null, null));
    }

    boolean join(boolean all) {
        int size = stack.size();
        if (size < 2 || stack.get(size - 2).leaves() + stack.get(size - 1).leaves() > 12) {
            return false;
        }
        Expression right = stack.remove(size - 1);
        Expression left = stack.remove(size - 2);
        return push(new Expression(all ? "AND" : "OR", 0, 0, 0, left, right));
    }

    int accept() {
        if (stack.size() != 1) {
            return BAD;
        }
        if (!stack.get(0).driven()) {
            return UNDRIVEN;
        }
        rule = stack.remove(0);
        running = false;
        return rule.leaves();
    }

    boolean discard() {
        return !stack.isEmpty() && stack.remove(stack.size() - 1) != null;
    }

    int similar(int j, int k) {
        if (rule == null) {
            return NONE;
        }
        if (!isRecord(j) || !isRecord(k) || j == k) {
            return BAD;
        }
        return rule.holds(records.get(j), records.get(k)) ? 1 : 0;
    }

    int start(int count) {
        if (rule == null) {
            return NONE;
        }
        if (count < 1 || count > 4) {
            return BAD;
        }
        workers = count;
        running = true;
        doneTasks.clear();
        return records.size();
    }

    private boolean isWorker(int worker) {
        return worker >= 0 && worker < workers;
    }

    int work(int worker) {
        if (!running) {
            return NONE;
        }
        if (!isWorker(worker)) {
            return BAD;
        }
        for (int r = 0; r < records.size(); r++) {
            if (r % workers == worker && doneTasks.add(r)) {
                int before = 0;
                for (int q = 0; q < r; q++) {
                    before += similar(q, r);
                }
                return before;
            }
        }
        return IDLE;
    }

    private boolean isDone() {
        return doneTasks.size() == records.size();
    }

    int crash(int worker) {
        if (!running) {
            return NONE;
        }
        if (!isWorker(worker)) {
            return BAD;
        }
        if (isDone()) {
            return IDLE;
        }
        int before = doneTasks.size();
        doneTasks.removeIf(r -> r % workers == worker);
        return before - doneTasks.size();
    }

    int pairs() {
        if (!running) {
            return NONE;
        }
        int count = 0;
        for (int r : doneTasks) {
            for (int q = 0; q < r; q++) {
                count += found(q, r);
            }
        }
        return count;
    }

    int found(int j, int k) {
        if (!running) {
            return NONE;
        }
        if (!isRecord(j) || !isRecord(k) || j == k) {
            return BAD;
        }
        return doneTasks.contains(Math.max(j, k)) ? similar(j, k) : 0;
    }

    /** All records that can be gone to from a record, in ascending order. */
    private TreeSet<Integer> clusterOf(int record) {
        TreeSet<Integer> reached = new TreeSet<>(List.of(record));
        int before = 0;
        while (reached.size() > before) {
            before = reached.size();
            for (int from : List.copyOf(reached)) {
                for (int to = 0; to < records.size(); to++) {
                    if (found(from, to) == 1) {
                        reached.add(to);
                    }
                }
            }
        }
        return reached;
    }

    int cluster(int record) {
        if (!running) {
            return NONE;
        }
        if (!isRecord(record)) {
            return BAD;
        }
        return isDone() ? clusterOf(record).first() : BUSY;
    }

    boolean keep(int field, int how) {
        if (!isField(field) || how < 0 || how > 2) {
            return false;
        }
        ways[field] = how;
        return true;
    }

    int kept(int record, int field) {
        if (!running) {
            return NONE;
        }
        if (!isRecord(record) || !isField(field)) {
            return BAD;
        }
        if (!isDone()) {
            return BUSY;
        }
        List<String> texts = new ArrayList<>();
        List<Integer> members = new ArrayList<>(clusterOf(record));
        for (int r : members) {
            texts.add(normal(records.get(r)[field]));
        }
        return members.get(texts.indexOf(keptText(texts, ways[field])));
    }

    private static String keptText(List<String> texts, int way) {
        List<String> counted = new ArrayList<>(texts);
        if (way != 0) {
            counted.removeIf(String::isEmpty);
        }
        if (counted.isEmpty()) {
            return "";
        }
        if (way == 2) {
            return Collections.min(counted);
        }
        String best = counted.get(0);
        for (String text : counted) {
            int more = way == 0 ? text.length() - best.length()
                    : Collections.frequency(counted, text) - Collections.frequency(counted, best);
            best = more > 0 ? text : best;
        }
        return best;
    }
}
