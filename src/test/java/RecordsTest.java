/** Promises 1 (a new object), 2 (type), 3 (add) and 4 (records). */
public final class RecordsTest {
    private static final int[] NO_FIELDS = {-1, 2, 3, Integer.MIN_VALUE, Integer.MAX_VALUE};

    public static void main(String[] args) {
        constants();
        newObject();
        newDraftIsEmpty();
        newWaysAreLongest();
        objectsAreApart();
        typeRefusesWrongFields();
        typeRefusesHighCodes();
        typeRefusesThirteenthCharacter();
        refusedCharacterLeavesRoom();
        separatorsFillTheDraftToo();
        addEmptiesTheDraft();
        addUpToTwelve();
        typeLeavesTheRun();
        recordsStayAsTheyWere();
        Check.end();
    }

    private static void constants() {
        Check.due("BAD", RecordMatcher.BAD, -1);
        Check.due("FULL", RecordMatcher.FULL, -2);
        Check.due("UNDRIVEN", RecordMatcher.UNDRIVEN, -3);
        Check.due("NONE", RecordMatcher.NONE, -4);
        Check.due("IDLE", RecordMatcher.IDLE, -5);
        Check.due("BUSY", RecordMatcher.BUSY, -6);
    }

    private static void newObject() {
        RecordMatcher x = new RecordMatcher();
        Check.due("records() of a new object", x.records(), 0);
        Check.due("words(0, 0) of a new object", x.words(0, 0), RecordMatcher.BAD);
        Check.due("length(0, 0) of a new object", x.length(0, 0), RecordMatcher.BAD);
        Check.due("unit(0, 0, 0) of a new object", x.unit(0, 0, 0), RecordMatcher.BAD);
        Check.due("join(true) of a new object", x.join(true), false);
        Check.due("join(false) of a new object", x.join(false), false);
        Check.due("discard() of a new object", x.discard(), false);
        Check.due("accept() of a new object", x.accept(), RecordMatcher.BAD);
        Check.due("similar(0, 1) of a new object", x.similar(0, 1), RecordMatcher.NONE);
        Check.due("start(1) of a new object", x.start(1), RecordMatcher.NONE);
        Check.due("work(0) of a new object", x.work(0), RecordMatcher.NONE);
        Check.due("crash(0) of a new object", x.crash(0), RecordMatcher.NONE);
        Check.due("pairs() of a new object", x.pairs(), RecordMatcher.NONE);
        Check.due("found(0, 1) of a new object", x.found(0, 1), RecordMatcher.NONE);
        Check.due("cluster(0) of a new object", x.cluster(0), RecordMatcher.NONE);
        Check.due("kept(0, 0) of a new object", x.kept(0, 0), RecordMatcher.NONE);
        Check.due("records() after refusals", x.records(), 0);
    }

    private static void newDraftIsEmpty() {
        RecordMatcher x = new RecordMatcher();
        Check.due("add() of an empty draft", x.add(), 0);
        Check.normalText(x, 0, 0, "");
        Check.normalText(x, 0, 1, "");
        Check.due("words(0, 0) of an empty text", x.words(0, 0), 0);
        Check.due("words(0, 1) of an empty text", x.words(0, 1), 0);
    }

    private static void newWaysAreLongest() {
        RecordMatcher x = new RecordMatcher();
        Check.add(x, 0, "k b", "k b");
        Check.add(x, 1, "k b", "k b");
        Check.add(x, 2, "k long", "k long");
        Check.add(x, 3, "k a", "k a");
        Check.acceptJaccard(x, 0, 1, 3);
        Check.runAll(x, 1);
        Check.due("kept(0, 0) at first", x.kept(0, 0), 2);
        Check.due("kept(0, 1) at first", x.kept(0, 1), 2);
    }

    private static void objectsAreApart() {
        RecordMatcher x = new RecordMatcher();
        RecordMatcher y = new RecordMatcher();
        Check.add(x, 0, "a", "b");
        Check.acceptJaccard(x, 0, 1, 1);
        Check.due("start(1)", x.start(1), 1);
        Check.due("records() of another object", y.records(), 0);
        Check.due("start(1) of another object", y.start(1), RecordMatcher.NONE);
        Check.due("pairs() of another object", y.pairs(), RecordMatcher.NONE);
        Check.due("add() of another object", y.add(), 0);
        Check.normalText(y, 0, 0, "");
        Check.normalText(x, 0, 0, "a");
        Check.due("pairs()", x.pairs(), 0);
    }

    private static void typeRefusesWrongFields() {
        RecordMatcher x = new RecordMatcher();
        for (int field : NO_FIELDS) {
            Check.due("type(" + field + ", 'a')", x.type(field, 'a'), false);
        }
        Check.due("add()", x.add(), 0);
        Check.normalText(x, 0, 0, "");
        Check.normalText(x, 0, 1, "");
    }

    private static void typeRefusesHighCodes() {
        RecordMatcher x = new RecordMatcher();
        int[] high = {256, 257, 256 + 'a', 0x212A, 32768, 65535};
        for (int code : high) {
            Check.due("type(0, " + code + ")", x.type(0, (char) code), false);
            Check.due("type(1, " + code + ")", x.type(1, (char) code), false);
        }
        int[] low = {0, 1, 127, 128, 254, 255};
        for (int code : low) {
            Check.due("type(0, " + code + ")", x.type(0, (char) code), true);
            Check.due("type(1, " + code + ")", x.type(1, (char) code), true);
        }
        Check.due("add()", x.add(), 0);
        Check.normalText(x, 0, 0, "");
        Check.normalText(x, 0, 1, "");
    }

    private static void typeRefusesThirteenthCharacter() {
        RecordMatcher x = new RecordMatcher();
        Check.type(x, 0, "abcdefghijkl");
        Check.due("type(0, 'm') as the 13th", x.type(0, 'm'), false);
        Check.due("type(0, ' ') as the 13th", x.type(0, ' '), false);
        Check.type(x, 1, "zyxwvutsrqpo");
        Check.due("type(1, 'n') as the 13th", x.type(1, 'n'), false);
        Check.due("type(0, 'm') as the 13th", x.type(0, 'm'), false);
        Check.due("add()", x.add(), 0);
        Check.normalText(x, 0, 0, "abcdefghijkl");
        Check.normalText(x, 0, 1, "zyxwvutsrqpo");
    }

    private static void refusedCharacterLeavesRoom() {
        RecordMatcher x = new RecordMatcher();
        Check.type(x, 0, "ab");
        Check.due("type(0, 300)", x.type(0, (char) 300), false);
        Check.type(x, 0, "cdefghijkl");
        Check.due("type(0, 'm') as the 13th", x.type(0, 'm'), false);
        Check.due("add()", x.add(), 0);
        Check.normalText(x, 0, 0, "abcdefghijkl");
        Check.due("words(0, 0)", x.words(0, 0), 1);
    }

    private static void separatorsFillTheDraftToo() {
        RecordMatcher x = new RecordMatcher();
        Check.type(x, 0, "--a--..  b--");
        Check.due("type(0, 'c') behind 12 characters", x.type(0, 'c'), false);
        Check.type(x, 1, "            ");
        Check.due("type(1, 'c') behind 12 blanks", x.type(1, 'c'), false);
        Check.due("add()", x.add(), 0);
        Check.normalText(x, 0, 0, "a b");
        Check.normalText(x, 0, 1, "");
    }

    private static void addEmptiesTheDraft() {
        RecordMatcher x = new RecordMatcher();
        Check.add(x, 0, "abcdefghijkl", "one");
        Check.due("records()", x.records(), 1);
        Check.add(x, 1, "", "two");
        Check.due("records()", x.records(), 2);
        Check.add(x, 2, "ABCDEFGHIJKL", "");
        Check.normalText(x, 0, 0, "abcdefghijkl");
        Check.normalText(x, 0, 1, "one");
        Check.normalText(x, 1, 0, "");
        Check.normalText(x, 1, 1, "two");
        Check.normalText(x, 2, 0, "abcdefghijkl");
        Check.normalText(x, 2, 1, "");
    }

    private static void addUpToTwelve() {
        RecordMatcher x = new RecordMatcher();
        for (int r = 0; r < 12; r++) {
            Check.due("records()", x.records(), r);
            Check.add(x, r, "n" + r, r + "m");
        }
        Check.due("records()", x.records(), 12);
        Check.acceptJaccard(x, 0, 1, 1);
        Check.due("start(2)", x.start(2), 12);
        Check.type(x, 0, "abcdefghijk");
        Check.due("add() of a 13th", x.add(), RecordMatcher.FULL);
        Check.due("add() of a 13th again", x.add(), RecordMatcher.FULL);
        Check.due("records() after FULL", x.records(), 12);
        Check.due("pairs() after FULL", x.pairs(), 0);
        Check.due("type(0, 'l') after FULL", x.type(0, 'l'), true);
        Check.due("type(0, 'm') after FULL, as the 13th", x.type(0, 'm'), false);
        Check.due("words(12, 0)", x.words(12, 0), RecordMatcher.BAD);
        Check.due("length(12, 0)", x.length(12, 0), RecordMatcher.BAD);
        Check.due("unit(12, 0, 0)", x.unit(12, 0, 0), RecordMatcher.BAD);
        for (int r = 0; r < 12; r++) {
            Check.normalText(x, r, 0, "n" + r);
            Check.normalText(x, r, 1, r + "m");
        }
    }

    private static void typeLeavesTheRun() {
        RecordMatcher x = Check.withTexts("a", "a");
        Check.acceptJaccard(x, 0, 1, 1);
        Check.runAll(x, 1);
        Check.type(x, 0, "b");
        Check.due("pairs() after type", x.pairs(), 1);
        Check.due("cluster(1) after type", x.cluster(1), 0);
        Check.due("add()", x.add(), 2);
        Check.due("pairs() after add", x.pairs(), RecordMatcher.NONE);
    }

    private static void recordsStayAsTheyWere() {
        RecordMatcher x = new RecordMatcher();
        Check.add(x, 0, "ab", "cd");
        Check.type(x, 0, "xyz");
        Check.type(x, 1, "uvw");
        Check.normalText(x, 0, 0, "ab");
        Check.normalText(x, 0, 1, "cd");
        Check.due("length(1, 0) of the draft", x.length(1, 0), RecordMatcher.BAD);
        Check.due("words(1, 0) of the draft", x.words(1, 0), RecordMatcher.BAD);
        Check.due("unit(1, 0, 0) of the draft", x.unit(1, 0, 0), RecordMatcher.BAD);
        Check.due("records() with a draft", x.records(), 1);
    }
}
