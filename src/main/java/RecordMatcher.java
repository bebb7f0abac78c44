/**
 * Finds which records are of the same thing: records are typed in, a rule of comparisons is built
 * on a stack, workers go through all pairs, and the records fall into clusters.
 */
public final class RecordMatcher {
    public static final int BAD = -1;
    public static final int FULL = -2;
    public static final int UNDRIVEN = -3;
    public static final int NONE = -4;
    public static final int IDLE = -5;
    public static final int BUSY = -6;

    private static final int FIELDS = 2;
    private static final int MOST_RECORDS = 12;
    private static final int MOST_CHARACTERS = 12;
    private static final int HIGHEST_CODE = 255;
    private static final int MOST_STACKED = 6;
    private static final int MOST_COMPARISONS = 12;
    private static final int MOST_DEN = 100;
    private static final int MOST_STEPS = 8;
    private static final int MOST_WORKERS = 4;
    private static final int KEEP_LONGEST = 0;
    private static final int KEEP_COMMONEST = 1;
    private static final int KEEP_LEAST = 2;

    // The draft is the entry behind the last record, so add() has nothing to copy; hence one more.
    private final Entry[] entries = new Entry[MOST_RECORDS + 1];
    private int recordCount;
    private final Expression[] stack = new Expression[MOST_STACKED];
    private int height;
    private Expression rule;
    private final Run run = new Run();
    private final int[] ways = new int[FIELDS];

    public RecordMatcher() {
        for (int i = 0; i < entries.length; i++) {
            entries[i] = new Entry();
        }
    }

    public boolean type(int field, char c) {
        return isField(field) && c <= HIGHEST_CODE && textOf(recordCount, field).take(c);
    }

    public int add() {
        if (recordCount >= MOST_RECORDS) {
            return FULL;
        }
        run.end();
        recordCount++;
        return recordCount - 1;
    }

    public int records() {
        return recordCount;
    }

    public int words(int record, int field) {
        if (!isRecord(record) || !isField(field)) {
            return BAD;
        }
        return textOf(record, field).wordSetSize();
    }

    public int length(int record, int field) {
        if (!isRecord(record) || !isField(field)) {
            return BAD;
        }
        return textOf(record, field).size;
    }

    public int unit(int record, int field, int i) {
        if (!isRecord(record) || !isField(field)) {
            return BAD;
        }
        Text text = textOf(record, field);
        return i >= 0 && i < text.size ? text.codes[i] : BAD;
    }

    public boolean jaccard(int field, int num, int den) {
        if (!isField(field) || num < 1 || num > den || den > MOST_DEN || height >= MOST_STACKED) {
            return false;
        }
        push(new Jaccard(field, num, den));
        return true;
    }

    public boolean edit(int field, int d) {
        if (!isField(field) || d < 0 || d > MOST_STEPS || height >= MOST_STACKED) {
            return false;
        }
        push(new Edit(field, d));
        return true;
    }

    public boolean join(boolean all) {
        Expression lower = fromTop(1);
        Expression upper = fromTop(0);
        if (lower == null || upper == null
                || lower.comparisons + upper.comparisons > MOST_COMPARISONS) {
            return false;
        }
        height -= 2;
        push(new Joined(all, lower, upper));
        return true;
    }

    public int accept() {
        Expression only = fromTop(0);
        if (only == null || height > 1) {
            return BAD;
        }
        if (!only.driven) {
            return UNDRIVEN;
        }
        rule = only;
        height = 0;
        run.end();
        return only.comparisons;
    }

    public boolean discard() {
        if (height == 0) {
            return false;
        }
        height--;
        return true;
    }

    public int similar(int j, int k) {
        if (rule == null) {
            return NONE;
        }
        if (!areTwoRecords(j, k)) {
            return BAD;
        }
        return rule.holdsOf(entries[j], entries[k]) ? 1 : 0;
    }

    public int start(int workers) {
        if (rule == null) {
            return NONE;
        }
        if (workers < 1 || workers > MOST_WORKERS) {
            return BAD;
        }
        run.begin(workers, recordCount);
        return recordCount;
    }

    public int work(int worker) {
        if (rule == null || !run.isOpen()) {
            return NONE;
        }
        if (!run.hasWorker(worker)) {
            return BAD;
        }
        int task = run.nextTask(worker);
        if (task >= run.tasks) {
            return IDLE;
        }
        int count = 0;
        for (int q = 0; q < task; q++) {
            if (rule.holdsOf(entries[q], entries[task])) {
                run.note(q, task);
                count++;
            }
        }
        run.finishTask(worker);
        return count;
    }

    public int crash(int worker) {
        if (!run.isOpen()) {
            return NONE;
        }
        if (!run.hasWorker(worker)) {
            return BAD;
        }
        if (run.isDone()) {
            return IDLE;
        }
        return run.undoTasks(worker);
    }

    public int pairs() {
        return run.isOpen() ? run.countPairs() : NONE;
    }

    public int found(int j, int k) {
        if (!run.isOpen()) {
            return NONE;
        }
        if (!areTwoRecords(j, k)) {
            return BAD;
        }
        return run.isNoted(Math.min(j, k), Math.max(j, k)) ? 1 : 0;
    }

    public int cluster(int record) {
        if (!run.isOpen()) {
            return NONE;
        }
        if (!isRecord(record)) {
            return BAD;
        }
        if (!run.isDone()) {
            return BUSY;
        }
        run.gather();
        return run.leaders[record];
    }

    public boolean keep(int field, int how) {
        if (!isField(field) || how < KEEP_LONGEST || how > KEEP_LEAST) {
            return false;
        }
        ways[field] = how;
        return true;
    }

    public int kept(int record, int field) {
        if (!run.isOpen()) {
            return NONE;
        }
        if (!isRecord(record) || !isField(field)) {
            return BAD;
        }
        if (!run.isDone()) {
            return BUSY;
        }
        run.gather();
        return bestOfCluster(run.leaders[record], field);
    }

    private boolean isRecord(int record) {
        return record >= 0 && record < recordCount;
    }

    private static boolean isField(int field) {
        return field >= 0 && field < FIELDS;
    }

    private boolean areTwoRecords(int j, int k) {
        return isRecord(j) && isRecord(k) && j != k;
    }

    private Text textOf(int entry, int field) {
        return entries[entry].text(field);
    }

    /** The expression with so many ones above it; null when the stack has none there. */
    private Expression fromTop(int above) {
        return above < height ? stack[height - 1 - above] : null;
    }

    private void push(Expression expression) {
        stack[height] = expression;
        height++;
    }

    /** Goes upwards and changes only to a better text, so the least record of equals stays. */
    private int bestOfCluster(int leader, int field) {
        int best = leader;
        for (int r = leader + 1; r < recordCount; r++) {
            if (run.leaders[r] == leader && isBetter(r, best, field)) {
                best = r;
            }
        }
        return best;
    }

    /** Whether record r's text is to be kept rather than that of another one of its cluster. */
    private boolean isBetter(int r, int other, int field) {
        Text mine = textOf(r, field);
        Text others = textOf(other, field);
        // In the other ways a text without characters yields to any other one, as the shorter does.
        if (ways[field] == KEEP_LONGEST || mine.size == 0 || others.size == 0) {
            return mine.size > others.size;
        }
        if (ways[field] == KEEP_COMMONEST) {
            return countHavingTextOf(r, field) > countHavingTextOf(other, field);
        }
        return mine.compareWith(others) < 0;
    }

    private int countHavingTextOf(int record, int field) {
        Text text = textOf(record, field);
        int count = 0;
        for (int r = 0; r < recordCount; r++) {
            if (run.leaders[r] == run.leaders[record] && textOf(r, field).compareWith(text) == 0) {
                count++;
            }
        }
        return count;
    }

    /** One field's normal text, brought into that form while it is typed. */
    private static final class Text {
        private static final char BLANK = ' ';

        private final char[] codes = new char[MOST_CHARACTERS];
        private int size;
        private int typed;
        private boolean inWord;

        /** False when the text has all the characters that it may have. */
        boolean take(char c) {
            if (typed >= MOST_CHARACTERS) {
                return false;
            }
            typed++;
            boolean continued = inWord;
            inWord = isOfWord(c);
            if (!inWord) {
                return true;
            }
            // A blank stands for at least one character typed since the last word, so it fits.
            if (!continued && size > 0) {
                put(BLANK);
            }
            put(small(c));
            return true;
        }

        private void put(char c) {
            codes[size] = c;
            size++;
        }

        private static boolean isOfWord(char c) {
            return c >= 'a' && c <= 'z' || c >= 'A' && c <= 'Z' || c >= '0' && c <= '9';
        }

        private static char small(char c) {
            return c >= 'A' && c <= 'Z' ? (char) (c - 'A' + 'a') : c;
        }

        int wordSetSize() {
            int count = 0;
            for (int i = 0; i < size; i++) {
                if (beginsWord(i) && !hasWordBefore(i, this, i)) {
                    count++;
                }
            }
            return count;
        }

        int countWordsSharedWith(Text other) {
            int count = 0;
            for (int i = 0; i < size; i++) {
                // A word that stands in this text again counts only where it stands first.
                if (beginsWord(i) && !hasWordBefore(i, this, i)
                        && other.hasWordBefore(other.size, this, i)) {
                    count++;
                }
            }
            return count;
        }

        /** Whether one of the words that begin before place end is the other's word at place j. */
        private boolean hasWordBefore(int end, Text other, int j) {
            for (int i = 0; i < end; i++) {
                if (beginsWord(i) && isSameWord(i, other, j)) {
                    return true;
                }
            }
            return false;
        }

        private boolean isSameWord(int i, Text other, int j) {
            for (int n = 0; n < MOST_CHARACTERS; n++) {
                if (endsWord(i + n) || other.endsWord(j + n)) {
                    return endsWord(i + n) && other.endsWord(j + n);
                }
                if (codes[i + n] != other.codes[j + n]) {
                    return false;
                }
            }
            return true;
        }

        private boolean beginsWord(int i) {
            return i == 0 || codes[i - 1] == BLANK;
        }

        private boolean endsWord(int i) {
            return i >= size || codes[i] == BLANK;
        }

        /** Below 0 when this text is less than the other, 0 when they are the same, else above. */
        int compareWith(Text other) {
            int shorter = Math.min(size, other.size);
            for (int i = 0; i < shorter; i++) {
                if (codes[i] != other.codes[i]) {
                    return codes[i] - other.codes[i];
                }
            }
            return size - other.size;
        }
    }

    /** A record or the draft. */
    private static final class Entry {
        private final Text first = new Text();
        private final Text second = new Text();

        Text text(int field) {
            return field == 0 ? first : second;
        }
    }

    /** Something that holds of two records or not; never changed once it is made. */
    private abstract static class Expression {
        final int comparisons;
        final boolean driven;

        Expression(int comparisons, boolean driven) {
            this.comparisons = comparisons;
            this.driven = driven;
        }

        abstract boolean holdsOf(Entry one, Entry other);
    }

    private static final class Jaccard extends Expression {
        private final int field;
        private final int num;
        private final int den;

        Jaccard(int field, int num, int den) {
            super(1, true);
            this.field = field;
            this.num = num;
            this.den = den;
        }

        @Override
        boolean holdsOf(Entry one, Entry other) {
            Text a = one.text(field);
            Text b = other.text(field);
            int both = a.countWordsSharedWith(b);
            int either = a.wordSetSize() + b.wordSetSize() - both;
            return either > 0 && both * den >= num * either;
        }
    }

    private static final class Edit extends Expression {
        private final int field;
        private final int most;
        // Kept between calls, so that comparing makes no objects: row[j] is how many steps make
        // the part of the one text that was gone through into the first j characters of the other.
        private final int[] row = new int[MOST_CHARACTERS + 1];

        Edit(int field, int most) {
            super(1, false);
            this.field = field;
            this.most = most;
        }

        @Override
        boolean holdsOf(Entry one, Entry other) {
            return countSteps(one.text(field), other.text(field)) <= most;
        }

        private int countSteps(Text from, Text to) {
            for (int j = 0; j <= to.size; j++) {
                row[j] = j;
            }
            for (int i = 0; i < from.size; i++) {
                goThrough(from.codes[i], to);
            }
            return row[to.size];
        }

        private void goThrough(char code, Text to) {
            int diagonal = row[0];
            row[0]++;
            for (int j = 1; j <= to.size; j++) {
                int changed = to.codes[j - 1] == code ? diagonal : diagonal + 1;
                diagonal = row[j];
                row[j] = Math.min(changed, Math.min(row[j], row[j - 1]) + 1);
            }
        }
    }

    /** An AND or an OR; join() bounds the comparisons in it, and so how deep it goes. */
    private static final class Joined extends Expression {
        private final boolean all;
        private final Expression lower;
        private final Expression upper;

        Joined(boolean all, Expression lower, Expression upper) {
            super(lower.comparisons + upper.comparisons,
                    all ? lower.driven || upper.driven : lower.driven && upper.driven);
            this.all = all;
            this.lower = lower;
            this.upper = upper;
        }

        @Override
        boolean holdsOf(Entry one, Entry other) {
            return all
                    ? lower.holdsOf(one, other) && upper.holdsOf(one, other)
                    : lower.holdsOf(one, other) || upper.holdsOf(one, other);
        }
    }

    /** What the workers have done and found; one object serves for all runs, one at a time. */
    private static final class Run {
        private final int[] done = new int[MOST_WORKERS];
        private final boolean[] noted = new boolean[MOST_RECORDS * MOST_RECORDS];
        private final int[] leaders = new int[MOST_RECORDS];
        private int tasks;
        // 0 while there is no run.
        private int workers;

        void begin(int workers, int tasks) {
            this.workers = workers;
            this.tasks = tasks;
            for (int w = 0; w < done.length; w++) {
                done[w] = 0;
            }
            for (int i = 0; i < noted.length; i++) {
                noted[i] = false;
            }
        }

        void end() {
            workers = 0;
        }

        boolean isOpen() {
            return workers > 0;
        }

        boolean hasWorker(int worker) {
            return worker >= 0 && worker < workers;
        }

        boolean isDone() {
            int sum = 0;
            for (int w = 0; w < workers; w++) {
                sum += done[w];
            }
            return sum == tasks;
        }

        /** Not less than the number of tasks when the worker has no more of them. */
        int nextTask(int worker) {
            return taskOf(worker, done[worker]);
        }

        /** A worker's task before which it has so many other ones to do. */
        private int taskOf(int worker, int before) {
            return worker + before * workers;
        }

        void finishTask(int worker) {
            done[worker]++;
        }

        int undoTasks(int worker) {
            int undone = done[worker];
            for (int n = 0; n < undone; n++) {
                forgetPairsOf(taskOf(worker, n));
            }
            done[worker] = 0;
            return undone;
        }

        private void forgetPairsOf(int task) {
            for (int q = 0; q < task; q++) {
                noted[placeOf(q, task)] = false;
            }
        }

        void note(int q, int task) {
            noted[placeOf(q, task)] = true;
        }

        boolean isNoted(int q, int task) {
            return noted[placeOf(q, task)];
        }

        private static int placeOf(int q, int task) {
            return task * MOST_RECORDS + q;
        }

        int countPairs() {
            int count = 0;
            for (int r = 0; r < tasks; r++) {
                for (int q = 0; q < r; q++) {
                    if (isNoted(q, r)) {
                        count++;
                    }
                }
            }
            return count;
        }

        /** Makes leaders[r] the least record of record r's cluster. */
        void gather() {
            for (int r = 0; r < tasks; r++) {
                leaders[r] = r;
            }
            for (int r = 0; r < tasks; r++) {
                for (int q = 0; q < r; q++) {
                    if (isNoted(q, r)) {
                        unite(leaders[q], leaders[r]);
                    }
                }
            }
        }

        private void unite(int one, int other) {
            int least = Math.min(one, other);
            int gone = Math.max(one, other);
            for (int r = 0; r < tasks; r++) {
                if (leaders[r] == gone) {
                    leaders[r] = least;
                }
            }
        }
    }
}
