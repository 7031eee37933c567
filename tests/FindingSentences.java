import java.math.BigInteger;

/** What is found, and the digest: the promises 29 to 35, 37 and 38. */
final class FindingSentences {
    private final Tester t;

    FindingSentences(Tester tester) {
        t = tester;
    }

    /** Each with its key as its rank, and on the shelves by turns. */
    private static BeaconIndex ofTexts(int count) {
        BeaconIndex index = new BeaconIndex();
        for (int key = 0; key < count; key++) {
            Tester.add(index, key, key % 8, key, "|sea");
        }
        index.commit();
        return index;
    }

    @Sentence(of = "Promise 29", says = "Returns how many texts it finds.")
    void foundTexts() {
        BeaconIndex index = new BeaconIndex();
        Tester.ask(index, "sea");
        t.due("without texts", index.found(), 0);
        BeaconIndex full = ofTexts(60);
        Tester.ask(full, "sea");
        t.due("all sixty", full.found(), 60);
        full.takeOut(0);
        t.due("one less", full.found(), 59);
        Tester.ask(full, "bus");
        t.due("none", full.found(), 0);
        Tester.ask(full, "sea^0");
        t.due("with no weight", full.found(), 59);
    }

    @Sentence(of = "Promise 30", says = "Returns the key of the text there.")
    void keysFound() {
        BeaconIndex index = ofTexts(60);
        Tester.ask(index, "sea");
        t.due("the first", index.keyFound(0), 59);
        t.due("the last", index.keyFound(59), 0);
        index.takeOut(59);
        t.due("the first behind taking out", index.keyFound(0), 58);
        t.due("the last then", index.keyFound(58), 0);
        t.due("behind it", Tester.thrown(() -> index.keyFound(59)), Tester.IOOBE);
    }

    @Sentence(of = "Promise 31", says = "Returns the weight of the text there.")
    void weightsFound() {
        // Two texts with 3 runs: the mean is 1, the rarity 64 + 24 - 16 = 72 with one, 64 with both.
        BeaconIndex index = Tester.with("|sea", "|sea bus");
        Tester.ask(index, "sea bus");
        // 72 * 22 / (13 + 18) = 51, 64 * 22 / 31 = 45 and 64 * 22 / 22 = 64.
        t.due("the first", index.weightFound(0), 96);
        t.due("the last", index.weightFound(1), 64);
        t.due("which is", index.keyFound(1), 0);
        Tester.ask(index, "sea^0");
        t.due("none at all", index.weightFound(1), 0);
    }

    @Sentence(of = "Promise 32", says = "Returns how many of the texts that it finds are on it.")
    void foundOnShelves() {
        BeaconIndex index = ofTexts(59);
        Tester.ask(index, "sea");
        for (int shelf = 0; shelf < 8; shelf++) {
            t.due("shelf " + shelf, index.foundOn(shelf), shelf < 3 ? 8 : 7);
        }
        index.takeOut(7);
        t.due("the last shelf has one less", index.foundOn(7), 6);
        Tester.add(index, 8, 7, 0, "|sea");
        t.due("the first too", index.foundOn(0), 7);
        t.due("the buffer does not count", index.foundOn(7), 6);
        index.commit();
        t.due("but its segment does", index.foundOn(7), 7);
        Tester.ask(index, "bus");
        t.due("none is found", index.foundOn(0), 0);
        t.due("nor there", index.foundOn(7), 0);
    }

    @Sentence(of = "Promise 33", says = "Returns the place in the order of the text with this key; -1 if it is not found.")
    void placesOfKeys() {
        BeaconIndex index = Tester.with("|sea", "|sea sea", "|bus");
        Tester.ask(index, "sea");
        t.due("the first", index.placeOf(1), 0);
        t.due("the last", index.placeOf(0), 1);
        t.due("not found", index.placeOf(2), -1);
        t.due("no such text", index.placeOf(99), -1);
        Tester.add(index, 3, "|sea");
        t.due("in the buffer", index.placeOf(3), -1);
        index.takeOut(1);
        t.due("marked", index.placeOf(1), -1);
        t.due("the last is the first now", index.placeOf(0), 0);
        Tester.add(index, 1, "|sea");
        t.due("marked, and buffered", index.placeOf(1), -1);
        index.commit();
        t.due("marked, and in another segment", index.placeOf(1), 1);
        Tester.ask(index, "bus");
        t.due("the least key is not found", index.placeOf(0), -1);
        t.due("nor is one behind the only one", index.placeOf(1), -1);
        Tester.ask(index, "none");
        t.due("none is found", index.placeOf(0), -1);
    }

    @Sentence(of = "Promise 34", says = "Returns the weight of this part for the text with this key; 0 if that is in no segment, or marked.")
    void weightsOfParts() {
        BeaconIndex index = Tester.with("|sea", "|sea sea", "|bus");
        Tester.ask(index, "+sea -(bus) +none sea^2");
        // Three texts with 4 runs: the mean is 1; 16 * 4 / 3 = 21: 69 * 22 / 22 = 69.
        t.due("found by nothing", index.found(), 0);
        t.due("but the part weighs", index.partWeight(0, 0), 69);
        t.due("one with a minus does not", index.partWeight(2, 1), 0);
        t.due("one that is not in it", index.partWeight(0, 2), 0);
        t.due("the last part", index.partWeight(0, 3), 138);
        t.due("no such text", index.partWeight(99, 0), 0);
        Tester.add(index, 9, "|sea");
        t.due("in the buffer", index.partWeight(9, 0), 0);
        index.takeOut(1);
        t.due("marked", index.partWeight(1, 0), 0);
        Tester.add(index, 1, "|sea");
        t.due("marked, and buffered", index.partWeight(1, 0), 0);
        index.commit();
        t.due("marked, and in another segment", index.partWeight(1, 0) > 0, true);
        t.due("the new one weighs", index.partWeight(1, 0), index.partWeight(9, 0));
    }

    @Sentence(of = "Promise 35", says = "Returns how many texts it would find without this part; 0 if that is the only one.")
    void withoutAPart() {
        BeaconIndex index = Tester.with("|sea", "|sea bus", "|bus", "|x");
        Tester.ask(index, "sea");
        t.due("the only one", index.foundWithout(0), 0);
        Tester.ask(index, "-sea");
        t.due("the only one, with a minus", index.foundWithout(0), 0);
        Tester.ask(index, "(sea bus)");
        t.due("the only one, with parts in it", index.foundWithout(0), 0);
        Tester.ask(index, "+sea bus");
        t.due("without the only plus", index.foundWithout(0), 2);
        t.due("without the one that has no sign", index.foundWithout(1), 2);
        Tester.ask(index, "+sea +bus");
        t.due("without the first plus", index.foundWithout(0), 2);
        t.due("without the second plus", index.foundWithout(1), 2);
        t.due("with both", index.found(), 1);
        Tester.ask(index, "sea -bus -x");
        t.due("only minus is left", index.foundWithout(0), 0);
        t.due("without one minus", index.foundWithout(1), 2);
        t.due("without the other", index.foundWithout(2), 1);
        Tester.ask(index, "x" + " x".repeat(39));
        t.due("of forty the first", index.foundWithout(0), 1);
        t.due("of forty the last", index.foundWithout(39), 1);
        index.takeOut(3);
        t.due("marked ones are not found", index.foundWithout(39), 0);
    }

    @Sentence(of = "Promise 37", says = "Returns the mean weight of the texts that it finds, not cut; 0 without any.")
    void meanWeights() {
        BeaconIndex index = Tester.with("|sea", "|sea sea", "|sea sea sea", "|x");
        Tester.ask(index, "none");
        t.due("without any", index.meanWeight(), 0.0);
        Tester.ask(index, "-sea");
        t.due("without any, by a minus", index.meanWeight(), 0.0);
        Tester.ask(index, "x^0");
        t.due("of one without weight", index.meanWeight(), 0.0);
        Tester.ask(index, "x");
        t.due("of one", index.meanWeight(), (double) index.weightFound(0));
        Tester.ask(index, "sea");
        // Four texts with 7 runs: the mean is 1; 16 * 5 / 4 = 20: 68, so 68 * 22 * t / (10 * t + 3 + 9 * t).
        t.due("weights", index.weightFound(0) + " " + index.weightFound(1) + " " + index.weightFound(2), "74 72 68");
        t.due("not cut", index.meanWeight(), 214.0 / 3.0);
        BeaconIndex full = ofTexts(60);
        Tester.ask(full, "((sea^99)^99)^99");
        t.due("of sixty of the greatest", full.meanWeight(), 1000000.0);
    }

    // ---- the digest

    private void digests(String what, BeaconIndex index, int... values) {
        BigInteger due = Tester.folded(values);
        t.due("more than 64 bits " + what, due.abs().bitLength() > 64, true);
        t.due("digest " + what, index.digest(), due.longValue());
        t.due("digest again " + what, index.digest(), due.longValue());
    }

    @Sentence(of = "Promise 38", says = "A number d starts with 2447; then d becomes d * 31 + v, which wraps around as a 64-bit integer, for each v in this order")
    void theDigestWrapsAround() {
        BeaconIndex index = Tester.with("sea the|bus", "|sea sea");
        digests("without a word or question", index, 2, 0, 0, 1, 2, 0, 0, 1, 2, 0, 0, 2, 1, 1, 0, 0, 2, 0, 0, 88, 0, 88, 0);
        Tester.add(index, 9, "x");
        index.takeOut(1);
        Tester.takeWord(index, "sea");
        digests("with a marked text", index, 3, 1, 0, 1, 2, 1, 0, 1, 2, 0, 0, 2, 1, 1, 1, 0, 2, 3, 's', 'e', 'a', 1, 72,
            1, 72, 0);
    }

    @Sentence(of = "Promise 38", says = "for each field textsWith() and rarity(); then 1 if there is a question, and 0 if not; if there is one parts(), found(), for each text that it finds, in order, keyFound(), weightFound(), firstFit() of both fields, then foundOn() of each shelf, foundWithout() of each part.")
    void theDigestOfAQuestion() {
        BeaconIndex index = new BeaconIndex();
        Tester.ask(index, "sea -bus");
        int[] none = {0, 0, 0, 0, 0, 0, 64, 0, 64, 1, 2, 0, 0, 0, 0, 0, 0, 0, 0, 0, 0, 0};
        digests("without texts", index, none);
        Tester.add(index, 7, 7, 0, "|x sea");
        Tester.add(index, 3, 0, 0, "sea|sea");
        index.commit();
        // Two texts, one title of one run and bodies of 3: both means are 1. Title: 72 * 22 / 22 = 72, doubled 144;
        // body: 64 * 22 / 22 = 64 and 64 * 22 / (13 + 18) = 45.
        digests("of two", index, 2, 0, 0, 1, 2, 0, 0, 1, 2, 7, 0, 0, 2, 3, 0, 1, 1, 0, 0, 88, 0, 88, 1, 2, 2,
            3, 208, 0, 0, 7, 45, -1, 1, 1, 0, 0, 0, 0, 0, 0, 1, 0, 2);
    }

    @Sentence(of = "Promise 38", says = "texts(), buffered(), merges(), segments(); then for each segment textsIn(), markedIn(), levelOf(), wordsIn() of both fields, and for each text of it keyAt(), isMarked() (1 if so, 0 if not), lengthOf() of both fields; then how many bytes the word has and each of them")
    void theDigestOfSegments() {
        BeaconIndex index = new BeaconIndex();
        for (int key = 0; key < 4; key++) {
            Tester.add(index, key, key == 2 ? "b|c c" : "");
        }
        index.commit();
        Tester.add(index, 99, "d");
        index.commit();
        index.takeOut(0);
        digests("of two segments", index, 5, 0, 0, 2,
            4, 1, 1, 1, 1, 0, 1, 0, 0, 1, 0, 0, 0, 2, 0, 1, 2, 3, 0, 0, 0,
            1, 0, 0, 0, 1, 99, 0, 0, 1, 0, 0, 104, 0, 104, 0);
        index.mergeAll();
        digests("merged", index, 4, 0, 1, 1, 4, 0, 1, 1, 2, 1, 0, 0, 0, 2, 0, 1, 2, 3, 0, 0, 0, 99, 0, 0, 1,
            0, 0, 100, 0, 100, 0);
    }
}
