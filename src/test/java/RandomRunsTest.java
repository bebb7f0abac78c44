import java.util.Random;

/** All promises at once: long runs of calls, the same every time, against the model's answers. */
public final class RandomRunsTest {
    private static final int RUNS = 3000;
    private static final int MOST_CALLS = 512;
    private static final String[] WORDS = {"a", "b", "ab", "ann", "Ann", "lee", "Lea", "an", "7", "k",
            "abcdefghijkl", "12 ab ab 12 "};
    private static final String[] BETWEEN = {" ", "  ", "-", ", ", "\u00e9", "\u0000"};

    private final int seed;
    private final Random random;
    private final RecordMatcher x = new RecordMatcher();
    private final Model model = new Model();
    private int calls = 0;

    private RandomRunsTest(int seed) {
        this.seed = seed;
        random = new Random(seed);
    }

    public static void main(String[] args) {
        for (int seed = 0; seed < RUNS; seed++) {
            new RandomRunsTest(seed).run();
        }
        Check.end();
    }

    private void run() {
        // Some runs ask much before there is anything; most have records and a rule first.
        if (random.nextInt(5) > 0) {
            int count = random.nextInt(13);
            for (int r = 0; r < count; r++) {
                typeRecord();
                add();
            }
            buildRule();
        }
        while (calls < MOST_CALLS) {
            step();
        }
    }

    private void due(String call, int got, int want) {
        Check.due("run " + seed + ", call " + calls + ": " + call, got, want);
    }

    private void due(String call, boolean got, boolean want) {
        due(call, got ? 1 : 0, want ? 1 : 0);
    }

    /** Past the bound an object's answers are free, so nothing is asked then. */
    private boolean mayCall() {
        calls++;
        return calls <= MOST_CALLS;
    }

    private int oneOf(int... values) {
        return values[random.nextInt(values.length)];
    }

    /** Mostly a number of 0 .. bound - 1, now and then one just or far beyond. */
    private int near(int bound) {
        if (bound > 0 && random.nextInt(12) > 0) {
            return random.nextInt(bound);
        }
        return oneOf(-1, bound, bound + 1, Integer.MIN_VALUE, Integer.MAX_VALUE);
    }

    private void step() {
        switch (random.nextInt(24)) {
            case 0 -> typeSome();
            case 1 -> rarely(8, this::add);
            case 2 -> rarely(4, this::buildRule);
            case 3, 4 -> rarely(2, this::stackCall);
            case 5, 6 -> start();
            case 7, 8, 9, 10, 11 -> workMuch();
            case 12 -> crash();
            case 13 -> pairs();
            case 14, 15 -> found();
            case 16, 17 -> cluster();
            case 18 -> keep();
            case 19, 20 -> kept();
            case 21 -> similar();
            case 22 -> text();
            default -> records();
        }
    }

    private void rarely(int times, Runnable call) {
        if (random.nextInt(times) == 0) {
            call.run();
        }
    }

    private void type(int field, char c) {
        if (mayCall()) {
            due("type(" + field + ", " + (int) c + ")", x.type(field, c), model.type(field, c));
        }
    }

    private void typeText(int field) {
        int words = random.nextInt(4);
        for (int w = 0; w < words; w++) {
            String word = WORDS[random.nextInt(WORDS.length)] + BETWEEN[random.nextInt(BETWEEN.length)];
            for (char c : word.toCharArray()) {
                type(field, c);
            }
        }
    }

    private void typeRecord() {
        typeText(0);
        typeText(1);
    }

    private void typeSome() {
        if (random.nextInt(3) == 0) {
            typeText(random.nextInt(2));
        } else {
            type(near(2), (char) oneOf('a', 'Z', '0', ' ', 255, 256, 65535, random.nextInt(300)));
        }
    }

    private void add() {
        if (mayCall()) {
            due("add()", x.add(), model.add());
        }
    }

    private void jaccard(int field, int num, int den) {
        if (mayCall()) {
            due("jaccard(" + field + ", " + num + ", " + den + ")",
                    x.jaccard(field, num, den), model.jaccard(field, num, den));
        }
    }

    private void edit(int field, int d) {
        if (mayCall()) {
            due("edit(" + field + ", " + d + ")", x.edit(field, d), model.edit(field, d));
        }
    }

    private void join() {
        boolean all = random.nextBoolean();
        if (mayCall()) {
            due("join(" + all + ")", x.join(all), model.join(all));
        }
    }

    private void discard() {
        if (mayCall()) {
            due("discard()", x.discard(), model.discard());
        }
    }

    private void accept() {
        if (mayCall()) {
            due("accept()", x.accept(), model.accept());
        }
    }

    private void leaf() {
        if (random.nextInt(3) > 0) {
            int den = 1 + random.nextInt(random.nextBoolean() ? 4 : 100);
            jaccard(random.nextInt(2), 1 + random.nextInt(den), den);
        } else {
            edit(random.nextInt(2), random.nextInt(9));
        }
    }

    private void buildRule() {
        int leaves = oneOf(1, 1, 2, 2, 3, 4, 12, 13);
        for (int i = 0; i < leaves; i++) {
            leaf();
            rarely(2, this::join);
        }
        for (int i = 0; i < 5; i++) {
            join();
        }
        accept();
        rarely(2, this::discard);
    }

    private void stackCall() {
        switch (random.nextInt(6)) {
            case 0 -> jaccard(near(2), oneOf(0, 1, 2, 50, 100, 101), oneOf(0, 1, 2, 99, 100, 101));
            case 1 -> edit(near(2), near(9));
            case 2 -> leaf();
            case 3 -> join();
            case 4 -> discard();
            default -> accept();
        }
    }

    private void start() {
        int workers = 1 + near(4);
        if (mayCall()) {
            due("start(" + workers + ")", x.start(workers), model.start(workers));
        }
    }

    private void work(int worker) {
        if (mayCall()) {
            due("work(" + worker + ")", x.work(worker), model.work(worker));
        }
    }

    private void workMuch() {
        int times = oneOf(1, 1, 2, 20);
        for (int i = 0; i < times; i++) {
            work(times == 20 ? i % 4 : near(4));
        }
    }

    private void crash() {
        int worker = near(4);
        if (mayCall()) {
            due("crash(" + worker + ")", x.crash(worker), model.crash(worker));
        }
    }

    private void pairs() {
        if (mayCall()) {
            due("pairs()", x.pairs(), model.pairs());
        }
    }

    private void found() {
        int j = near(model.records());
        int k = near(model.records());
        if (mayCall()) {
            due("found(" + j + ", " + k + ")", x.found(j, k), model.found(j, k));
        }
    }

    private void similar() {
        int j = near(model.records());
        int k = near(model.records());
        if (mayCall()) {
            due("similar(" + j + ", " + k + ")", x.similar(j, k), model.similar(j, k));
        }
    }

    private void cluster() {
        int record = near(model.records());
        if (mayCall()) {
            due("cluster(" + record + ")", x.cluster(record), model.cluster(record));
        }
    }

    private void keep() {
        int field = near(2);
        int how = near(3);
        if (mayCall()) {
            due("keep(" + field + ", " + how + ")", x.keep(field, how), model.keep(field, how));
        }
    }

    private void kept() {
        int record = near(model.records());
        int field = near(2);
        if (mayCall()) {
            due("kept(" + record + ", " + field + ")", x.kept(record, field), model.kept(record, field));
        }
    }

    private void text() {
        int record = near(model.records());
        int field = near(2);
        int i = near(12);
        if (mayCall()) {
            due("words(" + record + ", " + field + ")", x.words(record, field), model.words(record, field));
        }
        if (mayCall()) {
            due("length(" + record + ", " + field + ")", x.length(record, field), model.length(record, field));
        }
        if (mayCall()) {
            due("unit(" + record + ", " + field + ", " + i + ")",
                    x.unit(record, field, i), model.unit(record, field, i));
        }
    }

    private void records() {
        if (mayCall()) {
            due("records()", x.records(), model.records());
        }
    }
}
