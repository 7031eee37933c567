/** Section 2 and the promises 6 to 20: each sentence that names a boundary case. */
final class SegmentSentences {
    private final Tester t;

    SegmentSentences(Tester tester) {
        t = tester;
    }

    /** An index whose segments have these sizes, if no merge comes: the keys go on from 0. */
    private static BeaconIndex ofSizes(int... sizes) {
        BeaconIndex index = new BeaconIndex();
        int key = 0;
        for (int size : sizes) {
            Tester.segment(index, key, size);
            key += size;
        }
        return index;
    }

    private static String sizes(BeaconIndex index) {
        StringBuilder sizes = new StringBuilder();
        for (int segment = 0; segment < index.segments(); segment++) {
            sizes.append(index.textsIn(segment)).append(' ');
        }
        return sizes.toString();
    }

    private static void takeOut(BeaconIndex index, int from, int count) {
        for (int key = from; key < from + count; key++) {
            index.takeOut(key);
        }
    }

    // ---- adding and taking out

    @Sentence(of = "Section 2", says = "Adding a text puts it into the buffer, behind the others there.")
    void addedTextsStandBehind() {
        BeaconIndex index = new BeaconIndex();
        Tester.add(index, 9, "x");
        Tester.add(index, 0, "y");
        Tester.add(index, 5, "z");
        t.due("buffered", index.buffered(), 3);
        t.due("no segment yet", index.segments(), 0);
        index.commit();
        t.due("keys", Tester.keysIn(index, 0), "9 0 5 ");
    }

    @Sentence(of = "Section 2", says = "If there is one with its key already, in the buffer or (not taken out) in a segment, that is taken out first.")
    void aBufferedForerunnerGoes() {
        BeaconIndex index = new BeaconIndex();
        Tester.add(index, 1, 1, 0, "sea");
        Tester.add(index, 2, 2, 0, "bus");
        Tester.add(index, 1, 3, 0, "storm storm");
        t.due("buffered", index.buffered(), 2);
        t.due("shelf of the new one", index.shelfOf(1), 3);
        index.commit();
        t.due("the new one is the last", Tester.keysIn(index, 0), "2 1 ");
        t.due("with its words", index.lengthOf(0, 1, 1), 2);
        t.due("nothing is marked", index.markedIn(0), 0);
    }

    @Sentence(of = "Section 2", says = "in the buffer or (not taken out) in a segment, that is taken out first.")
    void aForerunnerInASegmentIsMarked() {
        BeaconIndex index = Tester.with("sea", "bus");
        Tester.add(index, 0, 5, 0, "sea");
        t.due("marked at once", index.isMarked(0, 0), true);
        t.due("the other is not", index.isMarked(0, 1), false);
        t.due("it counts", index.texts(), 3);
        t.due("where the key is", index.segmentOf(0), -1);
        t.due("its shelf", index.shelfOf(0), 5);
    }

    @Sentence(of = "Section 2", says = "in the buffer or (not taken out) in a segment, that is taken out first.")
    void aTakenOutForerunnerStays() {
        BeaconIndex index = Tester.with("sea", "bus");
        index.takeOut(0);
        Tester.add(index, 0, "storm");
        t.due("marked", index.markedIn(0), 1);
        Tester.add(index, 0, "storm");
        t.due("marked as before", index.markedIn(0), 1);
        t.due("one buffered", index.buffered(), 1);
        t.due("texts", index.texts(), 3);
        index.commit();
        Tester.add(index, 0, "storm");
        t.due("the one in the second segment is marked", index.markedIn(1), 1);
        t.due("the first one as before", index.markedIn(0), 1);
    }

    @Sentence(of = "Section 2", says = "What is taken out of the buffer is gone at once")
    void theBufferForgetsAtOnce() {
        BeaconIndex index = new BeaconIndex();
        Tester.add(index, 1, "sea");
        Tester.add(index, 2, "bus");
        Tester.add(index, 3, "storm");
        index.takeOut(2);
        t.due("texts", index.texts(), 2);
        t.due("buffered", index.buffered(), 2);
        t.due("nowhere", index.segmentOf(2), -2);
        index.commit();
        t.due("the others in order", Tester.keysIn(index, 0), "1 3 ");
        index.takeOut(1);
        index.takeOut(3);
        index.mergeAll();
        Tester.add(index, 4, "sea");
        index.takeOut(4);
        t.due("an empty buffer makes no segment", index.commit(), 0);
    }

    @Sentence(of = "Section 2", says = "in a segment it is marked, and counts on for weights (section 4), but it is not found any more.")
    void aMarkedTextCountsOn() {
        BeaconIndex index = Tester.with("sea", "bus", "sea");
        Tester.takeWord(index, "sea");
        Tester.ask(index, "sea");
        int rarity = index.rarity(1);
        int weight = index.weightFound(0);
        index.takeOut(2);
        t.due("found", Tester.keys(index), "0 ");
        t.due("in segments", index.texts(), 3);
        t.due("texts with the word", index.textsWith(1), 2);
        t.due("rarity", index.rarity(1), rarity);
        t.due("weight", index.weightFound(0), weight);
        index.takeOut(0);
        t.due("the last one is not found either", index.found(), 0);
        t.due("mean without any", index.meanWeight(), 0.0);
    }

    @Sentence(of = "Section 2", says = "There are at most 60 texts in all, in the buffer and in segments (marked ones counted).")
    void sixtyInAll() {
        BeaconIndex index = ofSizes(39);
        takeOut(index, 0, 20);
        for (int key = 60; key < 81; key++) {
            t.due("text " + key, Tester.add(index, key, "x"), 1);
        }
        t.due("full", index.texts(), 60);
        t.due("one more", Tester.thrown(() -> index.add(81, 0, 0)), Tester.ISE);
        index.commit();
        t.due("one more behind a commit", Tester.thrown(() -> index.add(81, 0, 0)), Tester.ISE);
        index.mergeAll();
        t.due("the marked ones are gone", index.texts(), 40);
        for (int key = 0; key < 20; key++) {
            t.due("text " + key, Tester.add(index, key, "x"), 1);
        }
        t.due("full again", Tester.thrown(() -> index.add(81, 0, 0)), Tester.ISE);
        t.due("one segment and the buffer", index.commit(), 2);
    }

    // ---- commit

    @Sentence(of = "Section 2", says = "commit() makes the texts of the buffer a new segment, behind the others, in their order")
    void theBufferBecomesASegment() {
        BeaconIndex index = ofSizes(4);
        Tester.add(index, 90, "x");
        Tester.add(index, 80, "y");
        t.due("segments", index.commit(), 2);
        t.due("the first", Tester.keysIn(index, 0), "0 1 2 3 ");
        t.due("the new one", Tester.keysIn(index, 1), "90 80 ");
        t.due("the buffer is empty", index.buffered(), 0);
        t.due("where the text is", index.segmentOf(80), 1);
        BeaconIndex full = ofSizes(60);
        t.due("a buffer of sixty", full.textsIn(0), 60);
    }

    @Sentence(of = "Section 2", says = "with an empty buffer it does not.")
    void anEmptyBufferMakesNoSegment() {
        BeaconIndex index = new BeaconIndex();
        t.due("none", index.commit(), 0);
        Tester.segment(index, 0, 2);
        t.due("one", index.commit(), 1);
        Tester.segment(index, 2, 2);
        t.due("two", index.commit(), 2);
        t.due("again", index.commit(), 2);
        t.due("no merges", index.merges(), 0);
        t.due("sizes", sizes(index), "2 2 ");
    }

    @Sentence(of = "Section 2", says = "0 if it has 1 to 3 texts (marked ones counted), 1 with 4 to 12, 2 with 13 to 39, 3 with more")
    void levelsBySize() {
        for (int size = 1; size <= 60; size++) {
            int level = size < 4 ? 0 : size < 13 ? 1 : size < 40 ? 2 : 3;
            BeaconIndex index = ofSizes(size);
            t.due("level of " + size, index.levelOf(0), level);
            takeOut(index, 0, size);
            t.due("level of " + size + " marked ones", index.levelOf(0), level);
        }
    }

    @Sentence(of = "Section 2", says = "if there are three segments one right behind the other of the same level")
    void threeOfALevelAreMerged() {
        t.due("two of level 0", sizes(ofSizes(1, 3)), "1 3 ");
        t.due("three of level 0", sizes(ofSizes(1, 3, 2)), "6 ");
        t.due("three of the least", sizes(ofSizes(1, 1, 1)), "3 ");
        t.due("two of level 1", sizes(ofSizes(4, 12)), "4 12 ");
        t.due("three of level 1", sizes(ofSizes(4, 12, 5)), "21 ");
        t.due("two of level 2", sizes(ofSizes(13, 20)), "13 20 ");
        t.due("three of level 2", sizes(ofSizes(13, 20, 13)), "46 ");
        t.due("3 and 4 are of two levels", sizes(ofSizes(3, 3, 4)), "3 3 4 ");
        t.due("12 and 13 are of two levels", sizes(ofSizes(12, 12, 13)), "12 12 13 ");
        t.due("39 is of the level of 13", sizes(ofSizes(13, 39)), "13 39 ");
    }

    @Sentence(of = "Section 2", says = "three segments one right behind the other")
    void oneOfAnotherLevelStandsBetween() {
        BeaconIndex index = ofSizes(3, 3, 4, 3, 3);
        t.due("no merge", sizes(index), "3 3 4 3 3 ");
        t.due("merges", index.merges(), 0);
        Tester.segment(index, 20, 1);
        t.due("the last three", sizes(index), "3 3 4 7 ");
        t.due("merges behind it", index.merges(), 1);
    }

    @Sentence(of = "Section 2", says = "Then merges happen, as long as one can")
    void mergesGoOn() {
        BeaconIndex index = ofSizes(4, 4, 2, 1, 1);
        t.due("one segment", sizes(index), "12 ");
        t.due("of two merges", index.merges(), 2);
        t.due("in order", Tester.keysIn(index, 0), "0 1 2 3 4 5 6 7 8 9 10 11 ");
        BeaconIndex longer = ofSizes(13, 13, 5, 5, 1, 1, 1);
        t.due("only three are left, of level 0", sizes(longer), "13 13 5 5 3 ");
        BeaconIndex thrice = ofSizes(13, 13, 5, 5, 2, 1, 1);
        t.due("three merges", thrice.merges(), 3);
        t.due("to one", sizes(thrice), "40 ");
        t.due("of level", thrice.levelOf(0), 3);
    }

    @Sentence(of = "Section 2", says = "the level of a segment is 0 if it has 1 to 3 texts (marked ones counted)")
    void markedOnesCountForMerges() {
        BeaconIndex index = ofSizes(4, 1, 1);
        takeOut(index, 0, 3);
        Tester.segment(index, 50, 1);
        t.due("a segment of 4, 3 of them marked, is of level 1", sizes(index), "4 3 ");
        BeaconIndex fallen = ofSizes(1, 1, 4, 4);
        takeOut(fallen, 2, 7);
        Tester.segment(fallen, 50, 4);
        t.due("5 are left of 12", sizes(fallen), "1 1 5 ");
        BeaconIndex further = ofSizes(1, 1, 4, 4);
        takeOut(further, 2, 8);
        Tester.add(further, 60, "x");
        Tester.add(further, 61, "x");
        Tester.add(further, 62, "x");
        Tester.add(further, 63, "x");
        further.commit();
        t.due("4 are left of 12", sizes(further), "1 1 4 ");
    }

    @Sentence(of = "Section 2", says = "they become one segment in their place, with their texts that are not marked, in order")
    void mergedInTheirPlace() {
        BeaconIndex index = ofSizes(5, 1, 3);
        index.takeOut(5);
        index.takeOut(7);
        Tester.segment(index, 20, 2);
        t.due("sizes", sizes(index), "5 4 ");
        t.due("the first stays", Tester.keysIn(index, 0), "0 1 2 3 4 ");
        t.due("the merged one", Tester.keysIn(index, 1), "6 8 20 21 ");
        t.due("no marks are left", index.markedIn(1), 0);
        t.due("texts", index.texts(), 9);
        t.due("the new place of a text", index.segmentOf(21), 1);
        t.due("one that is gone", index.segmentOf(7), -2);
    }

    @Sentence(of = "Section 2", says = "if none are left, there is none.")
    void nothingIsLeftOfAMerge() {
        BeaconIndex one = ofSizes(3);
        takeOut(one, 0, 3);
        t.due("gone of one", one.mergeAll(), 3);
        t.due("segments", one.segments(), 0);
        BeaconIndex three = ofSizes(5, 2, 1);
        takeOut(three, 0, 8);
        Tester.add(three, 50, "x");
        t.due("gone of three", three.mergeAll(), 8);
        t.due("segments of three", three.segments(), 0);
        t.due("no such segment", Tester.thrown(() -> three.textsIn(0)), Tester.IOOBE);
        t.due("the buffer is left", three.texts(), 1);
        t.due("and becomes the first", three.commit(), 1);
        t.due("its key", Tester.keysIn(three, 0), "50 ");
    }

    @Sentence(of = "Section 2", says = "if none are left, there is none.")
    void onlyTheNewOneIsLeftOfThree() {
        BeaconIndex index = ofSizes(4, 2, 1);
        takeOut(index, 4, 3);
        Tester.segment(index, 50, 1);
        t.due("sizes", sizes(index), "4 1 ");
        t.due("the new one", Tester.keysIn(index, 1), "50 ");
    }

    // ---- mergeAll

    @Sentence(of = "Section 2", says = "mergeAll() makes one segment of all (not of the buffer), in the same way.")
    void allBecomeOne() {
        BeaconIndex index = ofSizes(1, 4, 1);
        index.takeOut(1);
        Tester.add(index, 90, "x");
        t.due("gone", index.mergeAll(), 1);
        t.due("one", index.segments(), 1);
        t.due("in order", Tester.keysIn(index, 0), "0 2 3 4 5 ");
        t.due("the buffer stays", index.buffered(), 1);
        t.due("where its text is", index.segmentOf(90), -1);
        t.due("again", index.mergeAll(), 0);
        t.due("as before", sizes(index), "5 ");
    }

    @Sentence(of = "Section 2", says = "mergeAll() makes one segment of all (not of the buffer), in the same way.")
    void thereIsNothingToMerge() {
        BeaconIndex index = new BeaconIndex();
        t.due("nothing", index.mergeAll(), 0);
        t.due("no segment", index.segments(), 0);
        Tester.add(index, 0, "x");
        t.due("only the buffer", index.mergeAll(), 0);
        t.due("still no segment", index.segments(), 0);
        t.due("still buffered", index.buffered(), 1);
    }

    @Sentence(of = "Section 2", says = "Segments are numbered from 0; the texts of a segment, too (marked ones counted).")
    void numbersBeginAtZero() {
        BeaconIndex index = ofSizes(4, 2);
        index.takeOut(0);
        index.takeOut(4);
        t.due("the first of the first", index.keyAt(0, 0), 0);
        t.due("the second of the first", index.keyAt(0, 1), 1);
        t.due("the last of the first", index.keyAt(0, 3), 3);
        t.due("the first of the second", index.keyAt(1, 0), 4);
        t.due("the last of the second", index.keyAt(1, 1), 5);
        t.due("behind the last text", Tester.thrown(() -> index.keyAt(1, 2)), Tester.IOOBE);
        t.due("behind the last segment", Tester.thrown(() -> index.keyAt(2, 0)), Tester.IOOBE);
    }

    // ---- promises 6 to 20

    @Sentence(of = "Promise 6", says = "Returns how many segments there are then.")
    void commitTellsTheSegments() {
        BeaconIndex index = new BeaconIndex();
        t.due("none", index.commit(), 0);
        Tester.add(index, 0, "x");
        t.due("one", index.commit(), 1);
        Tester.add(index, 1, "x");
        t.due("two", index.commit(), 2);
        Tester.add(index, 2, "x");
        t.due("merged to one", index.commit(), 1);
    }

    @Sentence(of = "Promise 7", says = "Returns how many texts go for good.")
    void mergeAllTellsWhatGoes() {
        BeaconIndex index = ofSizes(4, 1);
        t.due("nothing is marked", index.mergeAll(), 0);
        takeOut(index, 1, 2);
        t.due("two are", index.mergeAll(), 2);
        t.due("nothing any more", index.mergeAll(), 0);
        BeaconIndex full = ofSizes(60);
        takeOut(full, 0, 60);
        t.due("all sixty", full.mergeAll(), 60);
        t.due("texts", full.texts(), 0);
    }

    @Sentence(of = "Promise 8", says = "Returns how many texts there are, in the buffer and in segments, marked ones counted.")
    void textsAreCounted() {
        BeaconIndex index = new BeaconIndex();
        t.due("none", index.texts(), 0);
        Tester.add(index, 0, "x");
        t.due("in the buffer", index.texts(), 1);
        index.commit();
        Tester.add(index, 1, "x");
        t.due("in both", index.texts(), 2);
        index.takeOut(0);
        t.due("with a marked one", index.texts(), 2);
        index.takeOut(1);
        t.due("only a marked one", index.texts(), 1);
        t.due("sixty", ofSizes(60).texts(), 60);
    }

    @Sentence(of = "Promise 9", says = "Returns how many texts are in the buffer.")
    void theBufferIsCounted() {
        BeaconIndex index = new BeaconIndex();
        t.due("none", index.buffered(), 0);
        for (int key = 0; key < 60; key++) {
            index.add(key, 0, 0);
        }
        t.due("sixty", index.buffered(), 60);
        index.takeOut(59);
        t.due("one less", index.buffered(), 59);
        index.commit();
        t.due("none behind commit", index.buffered(), 0);
    }

    @Sentence(of = "Promise 10", says = "Returns how many segments there are.")
    void segmentsAreCounted() {
        t.due("none", new BeaconIndex().segments(), 0);
        t.due("one", ofSizes(2).segments(), 1);
        t.due("six", ofSizes(13, 13, 4, 4, 3, 3).segments(), 6);
        BeaconIndex index = ofSizes(1);
        index.takeOut(0);
        t.due("one of marked texts alone", index.segments(), 1);
        index.mergeAll();
        t.due("none again", index.segments(), 0);
    }

    @Sentence(of = "Promise 11", says = "(a merge of three, or mergeAll() with two segments or more, or with one that has marked texts).")
    void mergesAreCounted() {
        BeaconIndex index = new BeaconIndex();
        index.mergeAll();
        t.due("mergeAll() without a segment", index.merges(), 0);
        Tester.segment(index, 0, 1);
        index.mergeAll();
        t.due("mergeAll() with one", index.merges(), 0);
        Tester.segment(index, 1, 1);
        t.due("two segments", index.merges(), 0);
        index.mergeAll();
        t.due("mergeAll() with two", index.merges(), 1);
        index.takeOut(0);
        index.mergeAll();
        t.due("mergeAll() with one that has a marked text", index.merges(), 2);
        Tester.segment(index, 2, 1);
        Tester.segment(index, 3, 1);
        t.due("a merge of three", index.merges(), 3);
        takeOut(index, 1, 3);
        index.mergeAll();
        t.due("mergeAll() that leaves nothing", index.merges(), 4);
        index.mergeAll();
        t.due("mergeAll() without a segment again", index.merges(), 4);
        Tester.add(index, 9, "x");
        index.takeOut(9);
        index.mergeAll();
        t.due("mergeAll() behind a text that was only buffered", index.merges(), 4);
    }

    @Sentence(of = "Promise 12", says = "Returns how many texts it has, marked ones counted.")
    void textsOfASegment() {
        BeaconIndex index = ofSizes(4, 1);
        takeOut(index, 0, 5);
        t.due("the first", index.textsIn(0), 4);
        t.due("the last", index.textsIn(1), 1);
        t.due("sixty", ofSizes(60).textsIn(0), 60);
    }

    @Sentence(of = "Promise 13", says = "Returns how many of its texts are marked.")
    void marksOfASegment() {
        BeaconIndex index = ofSizes(4, 2);
        t.due("none", index.markedIn(0), 0);
        index.takeOut(3);
        t.due("the last of the first", index.markedIn(0), 1);
        t.due("none of the second", index.markedIn(1), 0);
        index.takeOut(4);
        index.takeOut(5);
        t.due("all of the second", index.markedIn(1), 2);
        t.due("still one of the first", index.markedIn(0), 1);
    }

    @Sentence(of = "Promise 14", says = "Returns its level.")
    void levelOfASegment() {
        BeaconIndex index = ofSizes(40, 13, 4, 3);
        for (int segment = 0; segment < 4; segment++) {
            t.due("level of " + segment, index.levelOf(segment), 3 - segment);
        }
    }

    @Sentence(of = "Promise 15", says = "Returns how many different words its texts, marked ones counted, have in this field.")
    void wordsOfASegment() {
        BeaconIndex index = Tester.with("sea bus|sea", "", "SEAS the|storm of x");
        Tester.segment(index, 10, 4);
        t.due("of titles", index.wordsIn(0, 0), 2);
        t.due("of bodies", index.wordsIn(0, 1), 3);
        t.due("of no title", index.wordsIn(1, 0), 0);
        t.due("of the other segment", index.wordsIn(1, 1), 4);
        takeOut(index, 0, 3);
        t.due("of marked texts", index.wordsIn(0, 0) * 10 + index.wordsIn(0, 1), 23);
        BeaconIndex empty = Tester.with("", "the|of");
        t.due("of empty texts", empty.wordsIn(0, 0) + empty.wordsIn(0, 1), 0);
        StringBuilder many = new StringBuilder();
        for (int k = 0; k < 100; k++) {
            many.append(k + 100).append(' ');
        }
        t.due("of a hundred runs", Tester.with(many.toString()).wordsIn(0, 1), 100);
    }

    @Sentence(of = "Promise 16", says = "Returns its key.")
    void keyOfAText() {
        BeaconIndex index = new BeaconIndex();
        Tester.add(index, 99, "x");
        Tester.add(index, 0, "x");
        index.commit();
        t.due("first", index.keyAt(0, 0), 99);
        t.due("last", index.keyAt(0, 1), 0);
        index.takeOut(99);
        t.due("of a marked one", index.keyAt(0, 0), 99);
    }

    @Sentence(of = "Promise 17", says = "Returns whether it is marked.")
    void markOfAText() {
        BeaconIndex index = ofSizes(2);
        t.due("at first", index.isMarked(0, 0), false);
        index.takeOut(0);
        t.due("the one", index.isMarked(0, 0), true);
        t.due("not the other", index.isMarked(0, 1), false);
        Tester.add(index, 1, "x");
        t.due("the other, when it has a follower", index.isMarked(0, 1), true);
    }

    @Sentence(of = "Promise 18", says = "Returns the length of this field of it.")
    void lengthOfAText() {
        BeaconIndex index = Tester.with("the sea|x", "", "q ".repeat(200), "q ".repeat(199) + "q|");
        t.due("title", index.lengthOf(0, 0, 0), 2);
        t.due("body", index.lengthOf(0, 0, 1), 1);
        t.due("empty", index.lengthOf(0, 1, 0) + index.lengthOf(0, 1, 1), 0);
        t.due("full body", index.lengthOf(0, 2, 1), 200);
        t.due("full title", index.lengthOf(0, 3, 0), 200);
        index.takeOut(0);
        t.due("of a marked one", index.lengthOf(0, 0, 0), 2);
    }

    @Sentence(of = "Promise 19", says = "(not marked); -1 if it is in the buffer; -2 if there is none.")
    void segmentOfAKey() {
        BeaconIndex index = ofSizes(4, 2);
        t.due("first of the first", index.segmentOf(0), 0);
        t.due("last of the first", index.segmentOf(3), 0);
        t.due("first of the second", index.segmentOf(4), 1);
        t.due("last of the second", index.segmentOf(5), 1);
        t.due("none", index.segmentOf(6), -2);
        t.due("the greatest key", index.segmentOf(99), -2);
        Tester.add(index, 0, "x");
        t.due("marked, but in the buffer again", index.segmentOf(0), -1);
        index.takeOut(0);
        t.due("only marked", index.segmentOf(0), -2);
        Tester.add(index, 0, "x");
        index.commit();
        t.due("marked, but in another segment", index.segmentOf(0), 2);
    }

    @Sentence(of = "Promise 20", says = "Returns the shelf of the text with this key (that is not marked); -1 without one.")
    void shelfOfAKey() {
        BeaconIndex index = new BeaconIndex();
        t.due("none", index.shelfOf(0), -1);
        Tester.add(index, 0, 0, 0, "x");
        Tester.add(index, 99, 7, 0, "x");
        t.due("in the buffer", index.shelfOf(0) * 10 + index.shelfOf(99), 7);
        index.commit();
        t.due("in a segment", index.shelfOf(0) * 10 + index.shelfOf(99), 7);
        index.takeOut(99);
        t.due("marked", index.shelfOf(99), -1);
        Tester.add(index, 99, 3, 0, "x");
        t.due("marked, and in the buffer again", index.shelfOf(99), 3);
    }
}
