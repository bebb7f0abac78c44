/** Counts the answers that are not as due, and helps to bring objects into a state. */
final class Check {
    private static final int MOST_PRINTED = 50;
    private static int answers = 0;
    private static int wrong = 0;
    private static String sentence = "";
    private static int answersBefore = -1;

    private Check() {
    }

    /** Names the document's sentence that the next answers are of: a wrong one tells it then. */
    static void sentence(String words) {
        endSentence();
        sentence = words;
        answersBefore = answers;
    }

    /** A sentence of which nothing was asked would seem to hold. */
    private static void endSentence() {
        if (answersBefore == answers) {
            due("answers of this sentence", 0, 1);
        }
        sentence = "";
        answersBefore = -1;
    }

    static void due(String call, int got, int want) {
        answers++;
        if (got != want) {
            wrong++;
            if (wrong <= MOST_PRINTED) {
                System.out.println((sentence.isEmpty() ? "" : "[" + sentence + "] ")
                        + call + " answered " + got + ", due is " + want);
            }
        }
    }

    static void due(String call, boolean got, boolean want) {
        due(call, got ? 1 : 0, want ? 1 : 0);
    }

    /** A test must have asked for something: a main method that checks nothing does not pass. */
    static void end() {
        endSentence();
        System.out.println(answers + " answers, " + wrong + " not as due");
        if (wrong != 0 || answers == 0) {
            System.exit(1);
        }
    }

    static void type(RecordMatcher x, int field, String text) {
        for (int i = 0; i < text.length(); i++) {
            due("type(" + field + ", " + (int) text.charAt(i) + ")", x.type(field, text.charAt(i)), true);
        }
    }

    /** Types a record in and adds it; it must become the one with this number. */
    static void add(RecordMatcher x, int number, String first, String second) {
        type(x, 0, first);
        type(x, 1, second);
        due("add() of '" + first + "', '" + second + "'", x.add(), number);
    }

    /** An object with one record for each text, in field 0. */
    static RecordMatcher withTexts(String... texts) {
        RecordMatcher x = new RecordMatcher();
        for (int r = 0; r < texts.length; r++) {
            add(x, r, texts[r], "");
        }
        return x;
    }

    /** Makes one JACCARD the rule. */
    static void acceptJaccard(RecordMatcher x, int field, int num, int den) {
        due("jaccard(" + field + ", " + num + ", " + den + ")", x.jaccard(field, num, den), true);
        due("accept()", x.accept(), 1);
    }

    /** Lets each worker do all its tasks. */
    static void workAll(RecordMatcher x, int workers) {
        for (int w = 0; w < workers; w++) {
            for (int i = 0; i <= x.records() && x.work(w) != RecordMatcher.IDLE; i++) {
                continue;
            }
        }
    }

    static void runAll(RecordMatcher x, int workers) {
        due("start(" + workers + ")", x.start(workers), x.records());
        workAll(x, workers);
    }

    static void normalText(RecordMatcher x, int record, int field, String want) {
        String place = record + ", " + field;
        due("length(" + place + ")", x.length(record, field), want.length());
        for (int i = 0; i < want.length(); i++) {
            due("unit(" + place + ", " + i + ")", x.unit(record, field, i), want.charAt(i));
        }
        due("unit(" + place + ", -1)", x.unit(record, field, -1), RecordMatcher.BAD);
        due("unit(" + place + ", " + want.length() + ")",
                x.unit(record, field, want.length()), RecordMatcher.BAD);
    }
}
