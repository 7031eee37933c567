/** Promise by promise: ordinary inputs, the edges that the document names, and wrong inputs. */
public final class PromisesTest {
    private static final String ISE = Tester.ISE;
    private static final String IAE = Tester.IAE;
    private static final String IOOBE = Tester.IOOBE;
    private static final int MIN = Tester.MIN;
    private static final int MAX = Tester.MAX;

    private final Tester t = new Tester();

    public static void main(String[] args) {
        PromisesTest test = new PromisesTest();
        test.aNewObject();
        test.feedAndTrim();
        test.textsAreCut();
        test.wordsAreShortened();
        test.addRefuses();
        test.takingOut();
        test.committingAndMerging();
        test.levelsGoByThrees();
        test.mergingAll();
        test.segmentsAreTold();
        test.takingAWord();
        test.theWordInTexts();
        test.nearestWord();
        test.manyWords();
        test.askingTakesTheTape();
        test.errorsOfQuestions();
        test.limitsOfQuestions();
        test.runsFit();
        test.beginningsFit();
        test.phrasesFit();
        test.nearWordsFit();
        test.fieldsOfUnits();
        test.signsOfParts();
        test.questionsInQuestions();
        test.weights();
        test.cappedWeights();
        test.markedTextsWeigh();
        test.orderAndPlaces();
        test.shelvesAndMean();
        test.partsAndWithout();
        test.firstFits();
        test.questionsNeedAsking();
        test.findingsFollowTheTexts();
        test.theDigest();
        test.t.end();
    }

    private static BeaconIndex with(String... texts) {
        return Tester.with(texts);
    }

    private void finds(BeaconIndex index, String question, String keys) {
        t.due("error of " + question, Tester.ask(index, question), -1);
        t.due("keys of " + question, Tester.keys(index), keys);
    }

    private void errs(String question, int position) {
        t.due("error of " + question, Tester.ask(new BeaconIndex(), question), position);
    }

    // Promise 1
    private void aNewObject() {
        BeaconIndex index = new BeaconIndex();
        t.due("texts", index.texts(), 0);
        t.due("buffered", index.buffered(), 0);
        t.due("segments", index.segments(), 0);
        t.due("merges", index.merges(), 0);
        t.due("tape", index.trim(0), 0);
        t.due("tape behind 0", Tester.thrown(() -> index.trim(1)), IAE);
        t.due("word", Tester.word(index), "");
        t.due("question", Tester.thrown(index::parts), ISE);
        t.due("rarity", index.rarity(0), 64);
        t.due("two objects", new BeaconIndex().digest(), index.digest());
    }

    // Promises 2 and 3
    private void feedAndTrim() {
        BeaconIndex index = new BeaconIndex();
        t.due("feed", index.feed(0x41424344, 0x45464748, 0x494a4b4c, 0x4d4e4f50, 0x51525354), 20);
        t.due("bytes", index.takeWord(), 12);
        t.due("highest first", Tester.word(index), "abcdefghijkl");
        t.due("negative numbers", index.feed(-1, MIN, 0x7cff20e9, -2, 0x61626364), 20);
        t.due("high bytes are no letters", index.add(0, 0, 0), 1);
        for (int n = 1; n <= 20; n++) {
            t.due("feed " + n, index.feed(0, 0, 0, 0, n), 20 * n);
        }
        t.throwing("feed above 400", index, ISE, () -> index.feed(0, 0, 0, 0, 0));
        t.due("trim none", index.trim(400), 400);
        t.throwing("trim 401", index, IAE, () -> index.trim(401));
        t.throwing("trim -1", index, IAE, () -> index.trim(-1));
        t.throwing("trim least", index, IAE, () -> index.trim(MIN));
        t.throwing("trim most", index, IAE, () -> index.trim(MAX));
        t.due("trim 381", index.trim(381), 381);
        t.throwing("feed to 401", index, ISE, () -> index.feed(0, 0, 0, 0, 0));
        t.due("trim 380", index.trim(380), 380);
        t.due("feed to 400", index.feed(0, 0, 0, 0, 0), 400);
        t.due("trim 0", index.trim(0), 0);
        t.due("trim keeps the first", keptByTrim(), "ab");
    }

    private static String keptByTrim() {
        BeaconIndex index = new BeaconIndex();
        Tester.feed(index, "abcdefg hij");
        index.trim(2);
        index.takeWord();
        return Tester.word(index);
    }

    // Promise 4, section 1
    private void textsAreCut() {
        BeaconIndex index = new BeaconIndex();
        t.due("words in both fields", Tester.add(index, 0, "The sea|sea of SEAS, and x1-y2"), 5);
        t.due("the tape is empty", Tester.thrown(() -> index.trim(1)), IAE);
        t.due("no bar: all is body", Tester.add(index, 1, "one two"), 2);
        t.due("only the first bar", Tester.add(index, 2, "a b|c|d e"), 4);
        t.due("nothing", Tester.add(index, 3, ""), 0);
        t.due("only a bar", Tester.add(index, 4, "|"), 0);
        t.due("bar at the end", Tester.add(index, 5, "x y z|"), 3);
        t.due("bar at the beginning", Tester.add(index, 6, "|x y"), 2);
        t.due("small words", Tester.add(index, 7, "the A an OF and Or to in"), 0);
        t.due("not small", Tester.add(index, 8, "thes ands is at on ina"), 6);
        t.due("two hundred runs", Tester.add(index, 9, "b ".repeat(200)), 200);
        t.due("bytes beside the letters", Tester.add(index, 10, "a@b[c`d{e/f:g"), 6);
        t.due("segments", index.commit(), 1);
        int[][] lengths = {{2, 6}, {0, 2}, {2, 3}, {0, 0}, {0, 0}, {3, 0}, {0, 2}, {0, 8}, {0, 6}, {0, 200}, {0, 7}};
        for (int text = 0; text < lengths.length; text++) {
            t.due("title of " + text, index.lengthOf(0, text, 0), lengths[text][0]);
            t.due("body of " + text, index.lengthOf(0, text, 1), lengths[text][1]);
        }
    }

    private void wordsAreShortened() {
        String[][] words = {
            {"Flies", "fly"}, {"dies", "die"}, {"ies", "ies"}, {"xies", "xie"}, {"glasses", "glass"}, {"sses", "ss"},
            {"asses", "ass"}, {"seas", "sea"}, {"sea", "sea"}, {"gas", "gas"}, {"glass", "glass"}, {"ABUS", "abus"},
            {"buses", "buse"}, {"singing", "sing"}, {"string", "str"}, {"sting", "sting"}, {"aing", "aing"},
            {"wanted", "want"}, {"aled", "aled"}, {"naled", "nal"}, {"need", "need"}, {"sings", "sing"},
            {"beddings", "bedding"}, {"seeds", "seed"}, {"thes", "the"}, {"THE", "the"}, {"a", "a"},
            {"abcdefghijklmno", "abcdefghijkl"}, {"abcdefghijksmno", "abcdefghijk"}, {"abcdefghiiesx", "abcdefghiy"},
            {"abcdefghiingx", "abcdefghi"}, {"abcdefghijedx", "abcdefghij"}, {"abcdefghssesx", "abcdefghss"},
            {"ZzyAxXB", "zzyaxxb"}, {"1234s", "1234"}, {"0", "0"}, {"z9", "z9"}, {"ss", "ss"}, {"us", "us"}, {"s", "s"}, {"ass9", "ass9"}};
        for (String[] word : words) {
            t.due("word of " + word[0], Tester.takeWord(new BeaconIndex(), " \u00e1." + word[0] + " x"), word[1]);
        }
    }

    private void addRefuses() {
        BeaconIndex index = new BeaconIndex();
        Tester.feed(index, "one two");
        int[][] wrong = {{-1, 0, 0}, {100, 0, 0}, {MIN, 0, 0}, {MAX, 0, 0}, {0, -1, 0}, {0, 8, 0}, {0, MAX, 0},
            {0, 0, -1}, {0, 0, 1000}, {0, 0, MIN}};
        for (int[] w : wrong) {
            t.throwing("add " + w[0] + " " + w[1] + " " + w[2], index, IAE, () -> index.add(w[0], w[1], w[2]));
        }
        t.due("the tape is still there", index.add(99, 7, 999), 2);
        for (int key = 0; key < 59; key++) {
            index.add(key, 0, 0);
        }
        t.due("sixty", index.texts(), 60);
        Tester.feed(index, "x y z");
        t.throwing("the 61st", index, ISE, () -> index.add(60, 0, 0));
        t.throwing("wrong, and the 61st", index, IAE, () -> index.add(60, 8, 0));
        t.due("in the place of a buffered one", index.add(58, 0, 0), 3);
        index.commit();
        Tester.feed(index, "x y z");
        t.throwing("a marked one counts on", index, ISE, () -> index.add(58, 0, 0));
        t.due("it is not taken out", index.segmentOf(58), 0);
        index.takeOut(3);
        t.throwing("taken out, it counts on", index, ISE, () -> index.add(3, 0, 0));
        t.due("it goes for good", index.mergeAll(), 1);
        t.due("room again", index.add(61, 0, 0), 3);
        t.throwing("and full again", index, ISE, () -> index.add(62, 0, 0));
    }

    // Promises 4, 5, 8, 9, 19, 20
    private void takingOut() {
        BeaconIndex index = new BeaconIndex();
        Tester.add(index, 5, 1, 0, "one");
        Tester.add(index, 6, 2, 0, "two");
        t.due("in the buffer", index.segmentOf(5), -1);
        t.due("nowhere", index.segmentOf(7), -2);
        t.due("shelf in the buffer", index.shelfOf(5), 1);
        t.due("shelf of none", index.shelfOf(7), -1);
        t.due("gone at once", index.takeOut(5), true);
        t.due("texts", index.texts(), 1);
        t.due("shelf of one that is gone", index.shelfOf(5), -1);
        Tester.add(index, 5, 3, 0, "three");
        Tester.add(index, 6, 4, 0, "four");
        t.due("the same key again", index.buffered(), 2);
        index.commit();
        t.due("behind the others", index.keyAt(0, 1), 6);
        t.due("only marked", index.takeOut(5), false);
        t.due("counts on", index.texts(), 2);
        t.due("marked", index.isMarked(0, 0), true);
        t.due("of a marked one", index.segmentOf(5), -2);
        t.due("shelf of a marked one", index.shelfOf(5), -1);
        t.throwing("marked already", index, ISE, () -> index.takeOut(5));
        t.throwing("none", index, ISE, () -> index.takeOut(50));
        t.throwing("key -1", index, IAE, () -> index.takeOut(-1));
        t.throwing("key 100", index, IAE, () -> index.takeOut(100));
        Tester.add(index, 6, 5, 0, "five");
        t.due("the new one marks the old one", index.markedIn(0), 2);
        t.due("the new one is in the buffer", index.segmentOf(6), -1);
        t.due("its shelf", index.shelfOf(6), 5);
        t.due("all", index.texts(), 3);
        t.due("out of the buffer alone", index.takeOut(6), true);
        t.throwing("segmentOf -1", index, IAE, () -> index.segmentOf(-1));
        t.throwing("segmentOf 100", index, IAE, () -> index.segmentOf(100));
        t.throwing("shelfOf -1", index, IAE, () -> index.shelfOf(-1));
        t.throwing("shelfOf 100", index, IAE, () -> index.shelfOf(100));
    }

    private static void segment(BeaconIndex index, int from, int count) {
        Tester.segment(index, from, count);
    }

    // Promises 6, 10, 11, 14
    private void committingAndMerging() {
        BeaconIndex index = new BeaconIndex();
        t.due("nothing to commit", index.commit(), 0);
        segment(index, 0, 1);
        t.due("with an empty buffer", index.commit(), 1);
        segment(index, 1, 3);
        t.due("two of level 0", index.segments(), 2);
        segment(index, 4, 4);
        t.due("level 1 ends the row", index.segments(), 3);
        t.due("its level", index.levelOf(2), 1);
        segment(index, 8, 2);
        segment(index, 10, 1);
        t.due("no three beside each other", index.segments(), 5);
        t.due("no merge", index.merges(), 0);
        index.takeOut(8);
        segment(index, 12, 1);
        t.due("three behind are merged", index.segments(), 4);
        t.due("one merge", index.merges(), 1);
        t.due("the marked one is gone", index.textsIn(3), 3);
        t.due("in order", index.keyAt(3, 0) * 10000 + index.keyAt(3, 1) * 100 + index.keyAt(3, 2), 91012);
        t.due("level by what is left", index.levelOf(3), 0);
        BeaconIndex gone = new BeaconIndex();
        segment(gone, 0, 4);
        segment(gone, 10, 1);
        segment(gone, 11, 1);
        gone.takeOut(10);
        gone.takeOut(11);
        Tester.add(gone, 12, "x");
        t.due("one is left", gone.commit(), 2);
        t.due("it alone", gone.textsIn(1), 1);
        BeaconIndex none = new BeaconIndex();
        segment(none, 0, 3);
        segment(none, 3, 3);
        for (int key = 0; key < 6; key++) {
            none.takeOut(key);
        }
        segment(none, 6, 1);
        t.due("marked ones count for levels", none.merges(), 1);
        t.due("but go", none.textsIn(0), 1);
    }

    private void levelsGoByThrees() {
        int[][] levels = {{1, 0}, {3, 0}, {4, 1}, {12, 1}, {13, 2}, {39, 2}, {40, 3}, {60, 3}};
        for (int[] level : levels) {
            BeaconIndex index = new BeaconIndex();
            segment(index, 0, level[0]);
            t.due("level of " + level[0], index.levelOf(0), level[1]);
            index.takeOut(0);
            t.due("level with a marked one of " + level[0], index.levelOf(0), level[1]);
        }
        BeaconIndex index = new BeaconIndex();
        segment(index, 0, 4);
        segment(index, 4, 4);
        segment(index, 8, 2);
        segment(index, 10, 1);
        segment(index, 11, 1);
        t.due("a merge leads to a merge", index.merges(), 2);
        t.due("to one segment", index.segments(), 1);
        t.due("of all", index.textsIn(0), 12);
        t.due("of level", index.levelOf(0), 1);
        BeaconIndex vanished = new BeaconIndex();
        segment(vanished, 0, 4);
        segment(vanished, 10, 1);
        segment(vanished, 11, 1);
        segment(vanished, 20, 13);
        t.due("four before", vanished.segments(), 4);
        segment(vanished, 40, 3);
        vanished.takeOut(10);
        vanished.takeOut(11);
        t.due("nothing is merged by taking out", vanished.segments(), 5);
    }

    // Promises 7, 11
    private void mergingAll() {
        BeaconIndex index = new BeaconIndex();
        t.due("nothing", index.mergeAll(), 0);
        Tester.add(index, 50, "buffered");
        t.due("the buffer stays", index.mergeAll() + 10 * index.buffered(), 10);
        t.due("no merge", index.merges(), 0);
        index.commit();
        t.due("one segment stays", index.mergeAll(), 0);
        t.due("still no merge", index.merges(), 0);
        index.takeOut(50);
        Tester.add(index, 51, "other");
        t.due("one with a marked text", index.mergeAll(), 1);
        t.due("a merge", index.merges(), 1);
        t.due("none left", index.segments(), 0);
        t.due("but the buffer", index.texts(), 1);
        index.commit();
        segment(index, 0, 5);
        index.takeOut(2);
        index.takeOut(4);
        t.due("two segments", index.mergeAll(), 2);
        t.due("two merges", index.merges(), 2);
        t.due("kept", index.textsIn(0), 4);
        t.due("first", index.keyAt(0, 0), 51);
        t.due("last", index.keyAt(0, 3), 3);
        segment(index, 10, 1);
        t.due("two without marks", index.mergeAll(), 0);
        t.due("a merge too", index.merges(), 3);
    }

    // Promises 12 to 19
    private void segmentsAreTold() {
        BeaconIndex index = with("sea storm|sea sea the bus", "Seas|bus", "|");
        segment(index, 10, 4);
        index.takeOut(1);
        t.due("textsIn", index.textsIn(0), 3);
        t.due("markedIn", index.markedIn(0), 1);
        t.due("markedIn other", index.markedIn(1), 0);
        t.due("words of titles, marked ones too", index.wordsIn(0, 0), 2);
        t.due("words of bodies", index.wordsIn(0, 1), 2);
        t.due("words of the other segment", index.wordsIn(1, 1), 4);
        t.due("no titles", index.wordsIn(1, 0), 0);
        t.due("keyAt", index.keyAt(0, 1), 1);
        t.due("keyAt other", index.keyAt(1, 3), 13);
        t.due("isMarked", index.isMarked(0, 1), true);
        t.due("isMarked not", index.isMarked(0, 0), false);
        t.due("lengthOf", index.lengthOf(0, 0, 1), 4);
        t.due("segmentOf", index.segmentOf(13), 1);
        t.due("segmentOf first", index.segmentOf(2), 0);
        for (int wrong : new int[] {-1, 2, MIN, MAX}) {
            t.throwing("textsIn " + wrong, index, IOOBE, () -> index.textsIn(wrong));
            t.throwing("markedIn " + wrong, index, IOOBE, () -> index.markedIn(wrong));
            t.throwing("levelOf " + wrong, index, IOOBE, () -> index.levelOf(wrong));
            t.throwing("wordsIn " + wrong, index, IOOBE, () -> index.wordsIn(wrong, 0));
            t.throwing("wordsIn field " + wrong, index, IOOBE, () -> index.wordsIn(0, wrong));
            t.throwing("keyAt " + wrong, index, IOOBE, () -> index.keyAt(wrong, 0));
            t.throwing("isMarked " + wrong, index, IOOBE, () -> index.isMarked(wrong, 0));
            t.throwing("lengthOf " + wrong, index, IOOBE, () -> index.lengthOf(wrong, 0, 0));
            t.throwing("lengthOf field " + wrong, index, IOOBE, () -> index.lengthOf(0, 0, wrong));
        }
        for (int wrong : new int[] {-1, 3, MIN, MAX}) {
            t.throwing("keyAt text " + wrong, index, IOOBE, () -> index.keyAt(0, wrong));
            t.throwing("isMarked text " + wrong, index, IOOBE, () -> index.isMarked(0, wrong));
            t.throwing("lengthOf text " + wrong, index, IOOBE, () -> index.lengthOf(0, wrong, 0));
        }
    }

    // Promises 21, 22
    private void takingAWord() {
        BeaconIndex index = new BeaconIndex();
        Tester.feed(index, "  ..Storms seas");
        t.due("bytes", index.takeWord(), 5);
        t.due("tape", Tester.thrown(() -> index.trim(1)), IAE);
        t.due("first byte", index.wordByte(0), (int) 's');
        t.due("last byte", index.wordByte(4), (int) 'm');
        t.throwing("behind it", index, IOOBE, () -> index.wordByte(5));
        t.throwing("ahead of it", index, IOOBE, () -> index.wordByte(-1));
        t.throwing("far ahead", index, IOOBE, () -> index.wordByte(MIN));
        t.due("a small one", Tester.takeWord(index, "the sea"), "the");
        t.due("across a bar", Tester.takeWord(index, "|x"), "x");
        Tester.feed(index, " .|");
        t.due("none", index.takeWord(), 0);
        t.due("it is empty", Tester.word(index), "");
        t.due("of an empty tape", index.takeWord(), 0);
        t.due("twelve", Tester.takeWord(index, "zyxwvutsrqpo"), "zyxwvutsrqpo");
        t.throwing("thirteenth", index, IOOBE, () -> index.wordByte(12));
    }

    // Promises 23, 24, 25
    private void theWordInTexts() {
        BeaconIndex index = with("sea|storm seas", "SEA sea the|", "storm|the sea thes");
        Tester.add(index, 9, "sea|sea");
        Tester.takeWord(index, "seas");
        t.due("in titles", index.textsWith(0), 2);
        t.due("in bodies", index.textsWith(1), 2);
        t.due("times", index.timesIn(1, 0), 2);
        t.due("times in the body", index.timesIn(0, 1), 1);
        t.due("of none", index.timesIn(50, 0), 0);
        t.due("in the buffer", index.timesIn(9, 0), 0);
        t.due("rarity", index.rarity(0), 16 * 4 + 16 * 21 / 16 - 16);
        index.takeOut(1);
        t.due("marked ones count", index.textsWith(0), 2);
        t.due("but are not told", index.timesIn(1, 0), 0);
        Tester.takeWord(index, "the");
        t.due("small words stand for nothing", index.textsWith(0), 0);
        t.due("what becomes the stands", index.textsWith(1), 1);
        t.due("rarity of one in three", index.rarity(1), 80);
        t.due("rarity of none in three", index.rarity(0), 96);
        Tester.takeWord(index, "");
        t.due("the empty word", index.textsWith(1), 0);
        t.due("the empty word, times", index.timesIn(0, 1), 0);
        t.throwing("textsWith 2", index, IOOBE, () -> index.textsWith(2));
        t.throwing("textsWith -1", index, IOOBE, () -> index.textsWith(-1));
        t.throwing("rarity 2", index, IOOBE, () -> index.rarity(2));
        t.throwing("rarity -1", index, IOOBE, () -> index.rarity(-1));
        t.throwing("timesIn key", index, IAE, () -> index.timesIn(100, 2));
        t.throwing("timesIn key -1", index, IAE, () -> index.timesIn(-1, 0));
        t.throwing("timesIn field", index, IOOBE, () -> index.timesIn(50, 2));
        t.throwing("timesIn field -1", index, IOOBE, () -> index.timesIn(0, -1));
    }

    private void nears(String word, String texts, int changes, String nearest) {
        BeaconIndex index = with(texts.split(";"));
        Tester.takeWord(index, word);
        t.due("changes of " + word + " in " + texts, index.nearest(), changes);
        t.due("nearest to " + word + " in " + texts, Tester.word(index), nearest);
    }

    // Promise 26
    private void nearestWord() {
        nears("ab", "|xyab", 2, "xyab");
        nears("ca", "|abc", 3, "abc");
        nears("abc", "|ca", 3, "ca");
        nears("ab", "|ba", 1, "ba");
        nears("storm", "|tsorm sstorm", 1, "sstorm");
        nears("storm", "|tsomr", 2, "tsomr");
        nears("abcd", "|acbd", 1, "acbd");
        nears("sea", "pea|;sea|x", 0, "sea");
        nears("sea", "tea|;|pea;|pea", 1, "pea");
        nears("sea", "pea pea pea|pea;|tea;tea|tea", 1, "tea");
        nears("sea", "tea|;|pea", 1, "pea");
        nears("x", "|x1 1x xa", 1, "1x");
        nears("x", "|xa x1", 1, "x1");
        nears("", "|bb d c a the", 1, "c");
        nears("abcdefghijkl", "|z", 12, "z");
        nears("the", "|the of thes xx", 0, "the");
        BeaconIndex index = new BeaconIndex();
        Tester.takeWord(index, "sea");
        t.due("no segments", index.nearest(), -1);
        Tester.add(index, 0, "sea of");
        t.due("only the buffer", index.nearest(), -1);
        t.due("it stays", Tester.word(index), "sea");
        index.takeOut(0);
        segment(index, 1, 1);
        index.takeOut(1);
        t.due("marked ones count", index.nearest(), 3);
        t.due("the marked one", Tester.word(index), "w1");
        BeaconIndex small = with("the of");
        Tester.takeWord(small, "the");
        t.due("small words are no words", small.nearest(), -1);
    }

    // Promises 15, 26: more words than the first rows have room for
    private void manyWords() {
        nears("sea", "|pea;|pea tea;|tea aaa tea", 1, "pea");
        StringBuilder title = new StringBuilder();
        StringBuilder body = new StringBuilder();
        for (int k = 0; k < 65; k++) {
            title.append(k + 100).append(' ');
            body.append(964 - k).append(' ');
        }
        BeaconIndex index = new BeaconIndex();
        Tester.add(index, 0, title + "|900 zz");
        Tester.add(index, 1, title + "the|" + title.substring(0, 120));
        Tester.add(index, 2, "|" + body);
        Tester.add(index, 3, "|zzy " + body);
        index.commit();
        t.due("many words of titles", index.wordsIn(0, 0), 65);
        t.due("many words of bodies", index.wordsIn(0, 1), 97);
        Tester.takeWord(index, "zz");
        t.due("one among many", index.nearest(), 0);
        Tester.takeWord(index, "zzx");
        t.due("near among many", index.nearest(), 1);
        t.due("the first by its bytes", Tester.word(index), "zz");
        Tester.takeWord(index, "90");
        t.due("in most texts among many", index.nearest(), 1);
        t.due("three texts have it", Tester.word(index), "900");
        Tester.takeWord(index, "8");
        index.nearest();
        t.due("the first of those in two texts", Tester.word(index), "108");
    }

    // Promise 27
    private void askingTakesTheTape() {
        BeaconIndex index = with("sea", "bus");
        Tester.feed(index, "sea bus");
        t.due("no error", index.ask(), -1);
        t.due("the tape is empty", Tester.thrown(() -> index.trim(1)), IAE);
        t.due("parts", index.parts(), 2);
        Tester.feed(index, "sea )");
        t.due("error", index.ask(), 4);
        t.due("the tape is empty behind an error", Tester.thrown(() -> index.trim(1)), IAE);
        t.due("the one before stays", index.parts(), 2);
        t.due("and finds", index.found(), 2);
        t.due("the empty tape", index.ask(), 0);
        finds(index, "bus", "1 ");
        t.due("the new one holds", index.parts(), 1);
    }

    private void errorsOfQuestions() {
        Object[][] errors = {
            {"", 0}, {"   ", 3}, {"a", -1}, {" a ", -1}, {"+a", -1}, {"- a", -1}, {"+", 1}, {"++a", 1}, {"a+", 2},
            {"a +b-c", -1}, {"a*", -1}, {"a *", -1}, {"a**", 2}, {"*a", 0}, {"\"a\"*", 3}, {"(a)*", 3}, {"a~2", 1},
            {"\"a\"~2", -1}, {"\"a\" ~ 2", -1}, {"\"a\"~2~2", 5}, {"\"a\"~2^3", -1}, {"\"a\"^3~2", 5}, {"\"\"", 1},
            {"\" \"", 2}, {"\"a", 2}, {"\"a*\"", 2}, {"\"a\"b\"", 5}, {"\"a\"\"b\"", -1}, {"\"(a)\"", 1},
            {"a^1", -1}, {"a ^ 01", -1}, {"a^", 2}, {"a^b", 2}, {"a^1b", 2}, {"a^100", 2}, {"a^1^2", 3}, {"^1", 0},
            {"a^1 2", -1}, {"(a)", -1}, {"(a b)^2", -1}, {"()", 1}, {"(", 1}, {"(a", 2}, {"a)", 1}, {"((a)", 4},
            {"((((a))))", -1}, {"(((((a)))))", 4}, {"(a)(b)", -1}, {"((((a))))((((b))))", -1}, {"(a)\"", 4},
            {"title:a", -1}, {"TITLE:a", -1}, {"title : a", -1}, {"title", -1}, {"title*", -1}, {"title:title", -1},
            {"title:", 6}, {"title:+a", 6}, {"title::a", 6}, {"titles:a", 6}, {"a:b", 1}, {"a :b", 2},
            {"title:body:a", 10}, {"+body:\"a\"~3^4", -1}, {"body:(title:a)", -1}, {":a", 0}, {"\"title:a\"", 6},
            {"title*:a", 6}, {"title^2:a", 7}, {"body a:b", 6}, {"a|b", 1}, {"a#", 1}, {"#", 0}, {"a\u00e9", 1},
            {"a,b", 1}, {"a\tb", 1}, {"12", -1}, {"1^2", -1}, {"-(a)", -1}, {"-(-a)", -1}, {"a -", 3}};
        for (Object[] error : errors) {
            errs((String) error[0], (Integer) error[1]);
        }
    }

    private void limitsOfQuestions() {
        String twenty = "abcdefghijklmnopqrst";
        errs(twenty, -1);
        errs(twenty + "u", 0);
        errs("a " + twenty + "u", 2);
        errs("\"" + twenty + "u\"", 1);
        errs("+ +" + twenty + "u", 2);
        errs("a^" + "1".repeat(21), 2);
        errs("a ".repeat(40), -1);
        errs("a ".repeat(41), 80);
        errs("a ".repeat(40) + "#", 80);
        errs("a ".repeat(40) + ")", 80);
        errs("a ".repeat(38) + ") x", 76);
        errs("(" + "a ".repeat(38) + ")", -1);
        errs("(" + "a ".repeat(39) + ")", 79);
        errs("(" + "a ".repeat(39), 79);
        errs("(a)(b)(c)(d)(e)(f)", -1);
        errs("(a(b(c(d)", 9);
        errs("(a(b(c(d(e", 8);
    }

    // Section 3: what fits
    private void runsFit() {
        BeaconIndex index = with("sea|storm", "of the sea", "seas thes", "glass lantern");
        finds(index, "sea", "0 2 1 ");
        finds(index, "SEAS", "0 2 1 ");
        finds(index, "the", "");
        finds(index, "thes", "2 ");
        finds(index, "storm lanterns", "0 3 ");
        finds(index, "se", "");
        BeaconIndex cut = with("abcdefghijklmn", "abcdefghijkl", "abcdefghijk");
        finds(cut, "abcdefghijklxyz", "0 1 ");
    }

    private void beginningsFit() {
        BeaconIndex index = with("storms", "story the", "stores", "to ss", "abcdefghijklm");
        finds(index, "stor*", "0 2 1 ");
        finds(index, "STORM*", "0 ");
        finds(index, "storms*", "");
        finds(index, "stories*", "");
        finds(index, "the*", "");
        finds(index, "to*", "");
        finds(index, "t*", "");
        finds(index, "abcdefghijkl*", "4 ");
        finds(index, "abcdefghijklm*", "");
        finds(with("thes toy", "the"), "the*", "0 ");
        finds(with("thes toy", "the"), "to*", "0 ");
    }

    private void phrasesFit() {
        BeaconIndex index = with("sea storm", "storm sea", "sea the storm", "x sea storm", "sea storm sea storm");
        finds(index, "\"sea storm\"", "4 0 3 ");
        finds(index, "\"sea of storm\"", "2 ");
        finds(index, "\"sea x storm\"", "");
        finds(index, "\"sea storms\"", "4 0 3 ");
        finds(index, "\"the sea storm\"", "3 4 ");
        finds(index, "\"sea the\"", "4 0 1 2 3 ");
        finds(index, "\"the of\"", "");
        finds(index, "\"x\"", "3 ");
        finds(index, "\"sea storm\"~0", "4 0 3 ");
        t.due("a phrase fits at its beginning", index.firstFit(3, 1), 1);
        Tester.ask(index, "\"the sea storm\"");
        t.due("which may be a place ahead", index.firstFit(3, 1), 0);
        Tester.ask(index, "\"the of storm\"");
        t.due("one big run fits where it stands", index.firstFit(3, 1), 2);
        finds(index, "\"sea storm sea storm sea\"", "");
        finds(with("sea|storm"), "\"sea storm\"", "");
    }

    private void nearWordsFit() {
        BeaconIndex index = with("sea x y storm", "storm x sea", "sea storm", "sea", "sea sea storm");
        finds(index, "\"sea storm\"~1", "4 2 1 ");
        finds(index, "\"sea storm\"~2", "4 2 1 0 ");
        finds(index, "\"sea the storm\"~1", "4 2 1 0 ");
        finds(index, "\"sea sea storm\"~1", "4 ");
        finds(index, "\"sea sea\"~99", "4 ");
        finds(index, "\"sea sea sea\"~9", "");
        finds(index, "\"sea the\"~1", "3 4 2 1 0 ");
        finds(index, "\"the of\"~9", "");
        Tester.ask(index, "\"sea sea storm\"~1");
        t.due("fits where the first word stands", index.firstFit(4, 1), 0);
        BeaconIndex far = with("sea a b c d e f storm g sea storm");
        Tester.ask(far, "\"sea storm\"~1");
        t.due("only the near one fits", far.firstFit(0, 1), 9);
        finds(with("x y z z z x"), "\"x y x\"~3", "0 ");
        finds(with("x y z z z x"), "\"x y x\"~2", "");
        finds(with("y x z z y"), "\"x y y\"~2", "0 ");
        finds(with("y x z z y"), "\"x y y\"~1", "");
    }

    private void fieldsOfUnits() {
        BeaconIndex index = with("sea|storm", "storm|sea", "x|sea storm", "sea storm|x");
        finds(index, "title:sea", "0 3 ");
        finds(index, "body:sea", "1 2 ");
        finds(index, "title:storm", "1 3 ");
        finds(index, "title:\"sea storm\"", "3 ");
        finds(index, "body:s*", "2 0 1 ");
        finds(index, "title:(+sea +storm)", "3 ");
        finds(index, "title:(+sea +body:storm)", "0 ");
        finds(index, "body:(+sea +(title:storm))", "1 ");
        finds(index, "body:(+sea +title:(storm))", "1 ");
        finds(index, "title:(+body:(sea) +storm)", "1 ");
        finds(index, "title:(+(sea) +(storm))", "3 ");
        finds(index, "title:(sea) +storm", "0 3 1 2 ");
        finds(with("title|body"), "title", "0 ");
        finds(with("title|body"), "+body:body +title:title", "0 ");
    }

    private void signsOfParts() {
        BeaconIndex index = with("sea", "sea storm", "storm", "sea storm bus", "bus");
        finds(index, "+sea +storm", "1 3 ");
        finds(index, "+sea storm", "1 3 0 ");
        finds(index, "sea -storm", "0 ");
        finds(index, "+storm -sea", "2 ");
        finds(index, "+storm -sea -storm", "");
        finds(index, "-sea", "");
        finds(index, "-sea -bus", "");
        finds(index, "+bus sea -storm", "4 ");
        finds(index, "+the", "");
        finds(index, "sea -the", "0 1 3 ");
        finds(index, "sea +the", "");
    }

    private void questionsInQuestions() {
        BeaconIndex index = with("sea", "sea storm", "storm", "sea storm bus", "bus");
        finds(index, "(sea)", "0 1 3 ");
        finds(index, "+(sea bus) +(storm)", "3 1 ");
        finds(index, "sea -(+storm +bus)", "0 1 ");
        finds(index, "bus (-sea)", "4 3 ");
        finds(index, "+bus -(-sea)", "4 3 ");
        finds(index, "+bus +(-sea)", "");
        finds(index, "((+sea -(storm -bus)))", "0 3 ");
        t.due("parts of the question alone", index.parts(), 1);
    }

    // Promises 31, 34, section 4
    private void weights() {
        BeaconIndex index = with("sea storm|sea sea bus the", "|bus x", "y|storm", "|");
        // Four texts; titles have 3 runs, so the mean is 0, but 1 at least; bodies have 7, so it is 1.
        // sea, title: one text, 16 * 5 / 2 = 40, 84; 84 * 22 / (10 + 3 + 9 * 2) = 59, doubled 118.
        // sea, body: 84 * 22 * 2 / (20 + 3 + 9 * 4) = 62.
        Tester.ask(index, "sea title:sea body:sea^3 -sea bus^0 (sea)^2");
        t.due("either field", index.partWeight(0, 0), 180);
        t.due("title", index.partWeight(0, 1), 118);
        t.due("body, three times", index.partWeight(0, 2), 186);
        t.due("with a minus", index.partWeight(0, 3), 0);
        t.due("none times", index.partWeight(0, 4), 0);
        t.due("a question", index.partWeight(0, 5), 360);
        t.due("not in it", index.partWeight(2, 0), 0);
        Tester.ask(index, "bus sea^2 -y");
        // bus, body: two texts, 16 * 5 / 3 = 26, 64 + 26 - 16 = 74; in text 0: 74 * 22 / (13 + 36) = 33.
        t.due("all parts added", index.weightFound(0), 393);
        t.due("of the first", index.keyFound(0), 0);
        // in text 1: 74 * 22 / (13 + 18) = 52.
        t.due("of the second", index.weightFound(1), 52);
        t.due("partWeight of none", index.partWeight(77, 0), 0);
        Tester.ask(index, "+sea (storm -bus)^9");
        t.due("a question that does not find it", index.partWeight(0, 1), 0);
        t.due("but the text is found", index.weightFound(0), 180);
        t.throwing("keyFound behind", index, IOOBE, () -> index.keyFound(2));
        t.throwing("weightFound behind", index, IOOBE, () -> index.weightFound(2));
        t.throwing("keyFound ahead", index, IOOBE, () -> index.keyFound(-1));
        t.throwing("weightFound ahead", index, IOOBE, () -> index.weightFound(MIN));
        t.throwing("partWeight key", index, IAE, () -> index.partWeight(100, 9));
        t.throwing("partWeight key -1", index, IAE, () -> index.partWeight(-1, 0));
        t.throwing("partWeight part", index, IOOBE, () -> index.partWeight(0, 2));
        t.throwing("partWeight part -1", index, IOOBE, () -> index.partWeight(50, -1));
        BeaconIndex phrase = with("|sea storm sea storm x");
        // One text: 16 * 2 / 2 = 16, 64; the mean is 5: 64 * 22 * 2 / (20 + 3 + 9 * 5 / 5) = 88.
        Tester.ask(phrase, "\"sea storm\" \"storm sea\"~1 s*");
        t.due("a phrase", phrase.partWeight(0, 0), 88);
        t.due("near words", phrase.partWeight(0, 1), 88);
        // Four times: 64 * 22 * 4 / (40 + 3 + 9) = 108.
        t.due("a beginning", phrase.partWeight(0, 2), 108);
    }

    private void cappedWeights() {
        BeaconIndex index = with("sea|sea");
        // 64 * 22 / (13 + 9) = 64, doubled 128, and 64: 192.
        Tester.ask(index, "sea^99 (sea^99)^99 ((sea^99)^99)^99 (sea^99)^52 (sea^99)^53");
        t.due("below", index.partWeight(0, 0), 19008);
        t.due("a part", index.partWeight(0, 1), 1000000);
        t.due("a part of a part", index.partWeight(0, 2), 1000000);
        t.due("just below", index.partWeight(0, 3), 988416);
        t.due("just above", index.partWeight(0, 4), 1000000);
        t.due("the question", index.weightFound(0), 1000000);
        Tester.ask(index, "((sea^99)^99 (sea^99)^99)^1 (sea^99)^99");
        t.due("a question in it", index.partWeight(0, 0), 1000000);
        t.due("the mean", index.meanWeight(), 1000000.0);
    }

    private void markedTextsWeigh() {
        BeaconIndex index = with("|sea", "|sea sea sea", "|bus");
        Tester.ask(index, "sea bus");
        int before = index.weightFound(0);
        index.takeOut(1);
        t.due("not found any more", Tester.keys(index), "2 0 ");
        t.due("partWeight of a marked one", index.partWeight(1, 0), 0);
        t.due("firstFit of a marked one", index.firstFit(1, 1), -1);
        // Three texts, mean 5 / 3 = 1; bus: 16 * 4 / 2 = 32, 80; 80 * 22 / 22 = 80. sea: 16 * 4 / 3 = 21, 69.
        t.due("it counts on", index.weightFound(0), 80);
        t.due("for its words too", index.weightFound(1), 69);
        index.mergeAll();
        // Two texts, mean 1: 16 * 3 / 2 = 24, 72 both.
        t.due("till it goes for good", index.weightFound(0), 72);
        t.due("of the same weight the smaller key", Tester.keys(index), "0 2 ");
        t.due("there was another weight", before == 72, false);
    }

    // Promises 30, 33
    private void orderAndPlaces() {
        BeaconIndex index = new BeaconIndex();
        Tester.add(index, 9, 0, 5, "sea");
        Tester.add(index, 3, 0, 5, "sea");
        Tester.add(index, 4, 0, 999, "sea");
        Tester.add(index, 8, 0, 0, "sea sea");
        Tester.add(index, 1, 0, 4, "sea");
        Tester.add(index, 2, 0, 4, "bus");
        index.commit();
        finds(index, "sea", "8 4 3 9 1 ");
        t.due("first", index.placeOf(8), 0);
        t.due("third", index.placeOf(3), 2);
        t.due("not found", index.placeOf(2), -1);
        t.due("none", index.placeOf(99), -1);
        finds(index, "sea^0", "4 3 9 1 8 ");
        t.throwing("key 100", index, IAE, () -> index.placeOf(100));
        t.throwing("key -1", index, IAE, () -> index.placeOf(-1));
    }

    // Promises 29, 32, 37
    private void shelvesAndMean() {
        BeaconIndex index = new BeaconIndex();
        Tester.add(index, 0, 0, 0, "|sea");
        Tester.add(index, 1, 7, 0, "|sea sea");
        Tester.add(index, 2, 7, 0, "|bus");
        index.commit();
        Tester.ask(index, "sea");
        t.due("found", index.found(), 2);
        t.due("shelf 0", index.foundOn(0), 1);
        t.due("shelf 7", index.foundOn(7), 1);
        t.due("shelf 3", index.foundOn(3), 0);
        t.throwing("shelf 8", index, IOOBE, () -> index.foundOn(8));
        t.throwing("shelf -1", index, IOOBE, () -> index.foundOn(-1));
        // 69 * 22 / (13 + 9) = 69 and 69 * 22 * 2 / (23 + 18) = 74.
        t.due("not cut", index.meanWeight(), 71.5);
        Tester.ask(index, "none");
        t.due("none found", index.found(), 0);
        t.due("mean of none", index.meanWeight(), 0.0);
    }

    // Promises 28, 35
    private void partsAndWithout() {
        BeaconIndex index = with("sea", "sea storm", "storm", "sea storm bus", "bus");
        Tester.ask(index, "+sea -bus storm");
        t.due("parts", index.parts(), 3);
        t.due("found", index.found(), 2);
        t.due("without the plus", index.foundWithout(0), 2);
        t.due("without the minus", index.foundWithout(1), 3);
        t.due("without the plain one", index.foundWithout(2), 2);
        t.due("still found", index.found(), 2);
        t.throwing("part 3", index, IOOBE, () -> index.foundWithout(3));
        t.throwing("part -1", index, IOOBE, () -> index.foundWithout(-1));
        Tester.ask(index, "sea");
        t.due("the only one", index.foundWithout(0), 0);
        Tester.ask(index, "sea -bus");
        t.due("minus alone is left", index.foundWithout(0), 0);
        t.due("plain alone is left", index.foundWithout(1), 3);
        Tester.ask(index, "(sea storm) +(bus)");
        t.due("parts of inner questions do not count", index.parts(), 2);
        t.due("without the inner one", index.foundWithout(1), 4);
        index.takeOut(1);
        t.due("marked ones are not found", index.foundWithout(1), 3);
    }

    // Promise 36
    private void firstFits() {
        BeaconIndex index = with("the sea storm|x y of sea bus", "bus");
        Tester.add(index, 9, "sea");
        Tester.ask(index, "storm sea");
        t.due("title", index.firstFit(0, 0), 1);
        t.due("body", index.firstFit(0, 1), 3);
        t.due("nothing fits", index.firstFit(1, 1), -1);
        t.due("in the buffer", index.firstFit(9, 1), -1);
        t.due("none", index.firstFit(50, 1), -1);
        Tester.ask(index, "-x +body:sea title:storm bus^0");
        t.due("looked for in the title", index.firstFit(0, 0), 2);
        t.due("looked for in the body", index.firstFit(0, 1), 3);
        t.due("times 0 counts", index.firstFit(1, 1), 0);
        Tester.ask(index, "(x +none) -(y) (-(sea)) +(bus)");
        t.due("also of a question that does not find it", index.firstFit(0, 1), 0);
        t.due("but not in a part with a minus", index.firstFit(0, 0), -1);
        Tester.ask(index, "-(+y) -(-(x)) +sea");
        t.due("nor within one", index.firstFit(0, 1), 3);
        t.throwing("key 100", index, IAE, () -> index.firstFit(100, 5));
        t.throwing("key -1", index, IAE, () -> index.firstFit(-1, 0));
        t.throwing("field 2", index, IOOBE, () -> index.firstFit(50, 2));
        t.throwing("field -1", index, IOOBE, () -> index.firstFit(0, -1));
    }

    private void questionsNeedAsking() {
        BeaconIndex index = with("sea");
        Tester.ask(index, "(");
        t.throwing("parts", index, ISE, index::parts);
        t.throwing("found", index, ISE, index::found);
        t.throwing("keyFound", index, ISE, () -> index.keyFound(-1));
        t.throwing("weightFound", index, ISE, () -> index.weightFound(-1));
        t.throwing("foundOn", index, ISE, () -> index.foundOn(8));
        t.throwing("placeOf", index, ISE, () -> index.placeOf(100));
        t.throwing("partWeight", index, ISE, () -> index.partWeight(100, -1));
        t.throwing("foundWithout", index, ISE, () -> index.foundWithout(-1));
        t.throwing("firstFit", index, ISE, () -> index.firstFit(100, 2));
        t.throwing("meanWeight", index, ISE, index::meanWeight);
    }

    private void findingsFollowTheTexts() {
        BeaconIndex index = new BeaconIndex();
        Tester.ask(index, "sea");
        t.due("nothing yet", index.found(), 0);
        Tester.add(index, 0, "sea");
        t.due("not in the buffer", index.found(), 0);
        index.commit();
        t.due("in a segment", index.found(), 1);
        Tester.add(index, 0, "sea sea");
        t.due("its marked forerunner is not found", index.found(), 0);
        index.commit();
        t.due("the new one is", Tester.keys(index), "0 ");
        t.due("at its place", index.firstFit(0, 1), 0);
        index.takeOut(0);
        t.due("taken out", index.found(), 0);
        index.mergeAll();
        t.due("merged away", index.found(), 0);
        segment(index, 20, 1);
        t.due("others do not fit", index.found(), 0);
    }

    // Promise 38
    private void theDigest() {
        BeaconIndex index = new BeaconIndex();
        int[] empty = {0, 0, 0, 0, 0, 0, 64, 0, 64, 0};
        t.due("of an empty one", index.digest(), folded(empty));
        Tester.add(index, 7, 3, 5, "|sea the");
        index.commit();
        Tester.add(index, 8, 0, 0, "x");
        Tester.takeWord(index, "seas");
        Tester.ask(index, "sea -x");
        // sea: 16 * 2 / 2 = 16, 64; 64 * 22 / (13 + 9 * 2 / 2) = 64.
        int[] full = {2, 1, 0, 1, 1, 0, 0, 0, 1, 7, 0, 0, 2, 3, 's', 'e', 'a', 0, 80, 1, 64, 1, 2, 1, 7, 64, -1, 0,
            0, 0, 0, 1, 0, 0, 0, 0, 0, 1};
        t.due("of a full one", index.digest(), folded(full));
        index.takeOut(7);
        int[] marked = {2, 1, 0, 1, 1, 1, 0, 0, 1, 7, 1, 0, 2, 3, 's', 'e', 'a', 0, 80, 1, 64, 1, 2, 0,
            0, 0, 0, 0, 0, 0, 0, 0, 0, 0};
        t.due("of a marked one", index.digest(), folded(marked));
        t.due("it changes nothing", index.digest(), folded(marked));
    }

    private static long folded(int[] values) {
        return Tester.folded(values).longValue();
    }
}
