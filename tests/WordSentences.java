/** The promises 23 to 26, and the logarithm of section 4: each sentence that names a boundary case. */
final class WordSentences {
    private final Tester t;

    WordSentences(Tester tester) {
        t = tester;
    }

    // ---- where the word stands

    @Sentence(of = "Promise 23", says = "Returns in how many texts of segments the word stands in this field, marked ones counted.")
    void textsWithTheWord() {
        BeaconIndex index = Tester.with("sea sea|bus", "SEAS|sea", "storm|the seat");
        Tester.segment(index, 10, 4);
        Tester.add(index, 20, "sea|sea");
        Tester.takeWord(index, "sea");
        t.due("titles", index.textsWith(0), 2);
        t.due("bodies", index.textsWith(1), 1);
        index.takeOut(0);
        index.takeOut(1);
        t.due("titles of marked texts", index.textsWith(0), 2);
        t.due("bodies of marked texts", index.textsWith(1), 1);
        index.mergeAll();
        t.due("when they are gone", index.textsWith(0) + index.textsWith(1), 0);
        index.commit();
        t.due("when the buffer is a segment", index.textsWith(0) * 10 + index.textsWith(1), 11);
        Tester.takeWord(index, "w13");
        t.due("of the other segment", index.textsWith(1), 1);
    }

    @Sentence(of = "Promise 23", says = "Returns in how many texts of segments the word stands in this field")
    void noTextHasTheWord() {
        BeaconIndex index = new BeaconIndex();
        t.due("without texts", index.textsWith(0) + index.textsWith(1), 0);
        Tester.add(index, 0, "|");
        Tester.add(index, 1, "the|the");
        index.commit();
        t.due("the empty word", index.textsWith(0) + index.textsWith(1), 0);
        Tester.takeWord(index, "the");
        t.due("a small word", index.textsWith(0) + index.textsWith(1), 0);
        BeaconIndex full = new BeaconIndex();
        for (int key = 0; key < 60; key++) {
            Tester.add(full, key, "sea");
        }
        full.commit();
        Tester.takeWord(full, "sea");
        t.due("sixty", full.textsWith(1), 60);
        t.due("no titles", full.textsWith(0), 0);
    }

    @Sentence(of = "Promise 24", says = "that is in a segment, and not marked; 0 without one.")
    void timesOfTheWord() {
        BeaconIndex index = Tester.with("sea|bus", "x", "q ".repeat(200), "sea SEAS sea|sea sea");
        Tester.add(index, 99, "sea|sea");
        Tester.takeWord(index, "sea");
        t.due("once", index.timesIn(0, 0), 1);
        t.due("not in the body", index.timesIn(0, 1), 0);
        t.due("three times", index.timesIn(3, 0), 3);
        t.due("twice in the body", index.timesIn(3, 1), 2);
        t.due("not there", index.timesIn(1, 1), 0);
        t.due("only buffered", index.timesIn(99, 0), 0);
        t.due("no such text", index.timesIn(50, 0), 0);
        index.takeOut(3);
        t.due("marked", index.timesIn(3, 0), 0);
        Tester.add(index, 3, "x|sea");
        t.due("marked, and buffered", index.timesIn(3, 1), 0);
        index.commit();
        t.due("marked, and in another segment", index.timesIn(3, 1), 1);
        Tester.takeWord(index, "q");
        t.due("two hundred times", index.timesIn(2, 1), 200);
    }

    @Sentence(of = "Promise 24", says = "0 without one.")
    void timesOfSmallAndEmptyWords() {
        BeaconIndex index = Tester.with("the of|the", "thes|");
        Tester.takeWord(index, "the");
        t.due("small runs are no words", index.timesIn(0, 0), 0);
        t.due("thes makes the word the", index.timesIn(1, 0), 1);
        Tester.takeWord(index, "");
        t.due("the empty word", index.timesIn(0, 0) + index.timesIn(1, 1), 0);
    }

    // ---- rarity

    /** Sixty texts: n0 stands in none of them, n1 in the first, n30 in the first thirty. */
    private static BeaconIndex sixty() {
        BeaconIndex index = new BeaconIndex();
        for (int key = 0; key < 60; key++) {
            StringBuilder text = new StringBuilder("n60 ");
            for (int f : new int[] {1, 2, 29, 30, 59}) {
                text.append(key < f ? "n" + f + " " : "");
            }
            Tester.add(index, key, text.toString());
        }
        index.commit();
        return index;
    }

    @Sentence(of = "Section 4", says = "For x of 1 or more let k be the number with 2^k <= x < 2^(k+1): the logarithm of x is 16 * k + 16 * x / 2^k - 16.")
    void logarithms() {
        // The rarities are the logarithms of 976, 976 / 2 = 488, 976 / 3 = 325, 976 / 30 = 32, 976 / 31 = 31,
        // 976 / 60 = 16 and 976 / 61 = 16: with k = 9, 8, 8, 5, 4, 4 and 4.
        int[][] due = {{0, 158}, {1, 142}, {2, 132}, {29, 80}, {30, 79}, {59, 64}, {60, 64}};
        BeaconIndex index = sixty();
        for (int[] one : due) {
            Tester.takeWord(index, "n" + one[0]);
            t.due("texts with n" + one[0], index.textsWith(1), one[0]);
            t.due("rarity of n" + one[0], index.rarity(1), one[1]);
            t.due("in titles", index.rarity(0), 158);
        }
    }

    @Sentence(of = "Section 4", says = "the logarithm of 16 * (N + 1) / (f + 1), where f is in how many texts it fits in this field.")
    void raritiesOfFewTexts() {
        t.due("of no text", new BeaconIndex().rarity(0), 64);
        BeaconIndex one = Tester.with("sea|x");
        t.due("of none in one", one.rarity(0), 80);
        Tester.takeWord(one, "sea");
        t.due("of one in one", one.rarity(0), 64);
        BeaconIndex two = Tester.with("sea", "x");
        t.due("of none in two: 48", two.rarity(1), 88);
        Tester.takeWord(two, "sea");
        t.due("of one in two: 24", two.rarity(1), 72);
        t.due("of no title in two", two.rarity(0), 88);
    }

    @Sentence(of = "Promise 25", says = "Returns the rarity (see 4) of what fits in textsWith() texts of this field.")
    void rarityCountsMarkedTexts() {
        BeaconIndex index = Tester.with("sea", "sea", "bus");
        Tester.takeWord(index, "sea");
        // 16 * 4 / 3 = 21: 64 + 21 - 16.
        t.due("two of three", index.rarity(1), 69);
        index.takeOut(0);
        Tester.add(index, 7, "sea");
        t.due("one of them marked, and one buffered", index.rarity(1), 69);
        index.mergeAll();
        t.due("one of two", index.rarity(1), 72);
        index.commit();
        t.due("two of three again", index.rarity(1), 69);
    }

    // ---- nearest

    private void nears(String word, String texts, int changes, String nearest) {
        BeaconIndex index = Tester.with(texts.split(";"));
        Tester.takeWord(index, word);
        t.due("changes of " + word + " in " + texts, index.nearest(), changes);
        t.due("nearest to " + word + " in " + texts, Tester.word(index), nearest);
    }

    @Sentence(of = "Promise 26", says = "a byte goes;")
    void aByteGoes() {
        nears("xstorm", "|storm", 1, "storm");
        nears("stoxrm", "|storm", 1, "storm");
        nears("stormx", "|storm", 1, "storm");
        nears("xstxormx", "|storm", 3, "storm");
        nears("bcdfghjklmnp", "|b", 11, "b");
    }

    @Sentence(of = "Promise 26", says = "one more comes, anywhere;")
    void aByteComes() {
        nears("torm", "|storm", 1, "storm");
        nears("strm", "|storm", 1, "storm");
        nears("stor", "|storm", 1, "storm");
        nears("b", "|bcdfghjklmnp", 11, "bcdfghjklmnp");
        nears("", "|bcdfghjklmnp", 12, "bcdfghjklmnp");
        nears("", "|b", 1, "b");
    }

    @Sentence(of = "Promise 26", says = "one is replaced by another one;")
    void aByteIsReplaced() {
        nears("xtorm", "|storm", 1, "storm");
        nears("stxrm", "|storm", 1, "storm");
        nears("storx", "|storm", 1, "storm");
        nears("b", "|c", 1, "c");
        nears("bbbbbbbbbbbb", "|cccccccccccc", 12, "cccccccccccc");
    }

    @Sentence(of = "Promise 26", says = "or two neighbours are exchanged")
    void neighboursAreExchanged() {
        nears("tsorm", "|storm", 1, "storm");
        nears("sotrm", "|storm", 1, "storm");
        nears("stomr", "|storm", 1, "storm");
        nears("bc", "|cb", 1, "cb");
        nears("tsomr", "|storm", 2, "storm");
        nears("cbedgfihkjmn", "|bcdefghijkmn", 5, "bcdefghijkmn");
    }

    @Sentence(of = "Promise 26", says = "which are not changed otherwise then, and between which none comes (from ab to xyab 2, from ca to abc 3)")
    void exchangedOnesAreNotChangedOtherwise() {
        nears("ab", "|xyab", 2, "xyab");
        nears("ca", "|abc", 3, "abc");
        nears("bc", "|cxb", 3, "cxb");
        nears("cxb", "|bc", 3, "bc");
        nears("bc", "|xcb", 2, "xcb");
        nears("bc", "|cbx", 2, "cbx");
    }

    @Sentence(of = "Promise 26", says = "that to which the fewest changes lead")
    void noChangeAtAll() {
        nears("storm", "|storn;|storn;|storn;|storm", 0, "storm");
        nears("storms", "|storn;|storm", 0, "storm");
        nears("storm", "|storn;stork|;stork|", 1, "stork");
        nears("storm", "|st;|st;|stoxx", 2, "stoxx");
        nears("storm", "|bbb storx stzzm", 1, "storx");
        nears("storm", "|bbb storx stzzm;|stzzm", 1, "storx");
    }

    @Sentence(of = "Promise 26", says = "Of several it is the one that stands in the most texts of segments (marked ones counted, each once, in either field)")
    void ofSeveralTheCommonest() {
        nears("sea", "|pea;|tea;|tea", 1, "tea");
        nears("sea", "|pea pea pea;|tea;|tea", 1, "tea");
        nears("sea", "pea|pea;tea|;|tea", 1, "tea");
        nears("sea", "pea|pea;|tea x", 1, "pea");
        nears("sea", "|x;|pea pea pea;|tea;|tea", 1, "tea");
        nears("sea", "|pea;|pea pea pea;|tea;|tea;|tea", 1, "tea");
        nears("sea", "|x;|pea bb pea;|tea;|tea x", 1, "tea");
        BeaconIndex index = Tester.with("tea", "tea", "pea");
        Tester.add(index, 9, "pea");
        Tester.add(index, 10, "pea");
        Tester.takeWord(index, "sea");
        index.takeOut(0);
        index.takeOut(1);
        index.nearest();
        t.due("marked ones count, those of the buffer do not", Tester.word(index), "tea");
    }

    @Sentence(of = "Promise 26", says = "Of several it is the one that stands in the most texts of segments (marked ones counted")
    void segmentsCountTogether() {
        BeaconIndex index = Tester.with("tea", "pea", "x", "y");
        Tester.add(index, 9, "tea");
        index.commit();
        Tester.takeWord(index, "sea");
        index.nearest();
        t.due("one in each segment", Tester.word(index), "tea");
    }

    @Sentence(of = "Promise 26", says = "of several the one that is the first by its bytes.")
    void ofSeveralTheFirst() {
        nears("sea", "|tea;|pea", 1, "pea");
        nears("sea", "|pea;|tea", 1, "pea");
        nears("b", "|b9 b0 bb ba", 1, "b0");
        nears("b", "|bz ab zb 0b", 1, "0b");
        nears("bb", "|b bbz bbb", 1, "b");
        nears("b9", "|ba b8 b z9", 1, "b");
        nears("the", "|thes", 0, "the");
    }

    @Sentence(of = "Promise 26", says = "-1 if there is no word in segments (then it stays).")
    void noWordInSegments() {
        BeaconIndex index = new BeaconIndex();
        Tester.takeWord(index, "sea");
        t.due("no texts", index.nearest(), -1);
        Tester.add(index, 0, "sea");
        t.due("only in the buffer", index.nearest(), -1);
        index.takeOut(0);
        Tester.add(index, 1, "");
        Tester.add(index, 2, "the|of to");
        index.commit();
        t.due("empty texts and small words", index.nearest(), -1);
        t.due("it stays", Tester.word(index), "sea");
        Tester.takeWord(index, "");
        t.due("also the empty word", index.nearest(), -1);
        t.due("it stays empty", Tester.word(index), "");
        Tester.add(index, 3, "storm");
        index.commit();
        index.takeOut(3);
        t.due("a marked text has words", index.nearest(), 5);
        t.due("the word", Tester.word(index), "storm");
        index.mergeAll();
        t.due("none when it is gone", index.nearest(), -1);
        t.due("it stays too", Tester.word(index), "storm");
    }

    @Sentence(of = "Promise 26", says = "Makes the word the nearest one that stands in a text of a segment (marked ones counted), in any field")
    void theWordIsTheNearestThen() {
        BeaconIndex index = Tester.with("sea storm|bus", "x|sea storm");
        Tester.takeWord(index, "stomr");
        t.due("changes", index.nearest(), 1);
        t.due("in titles", index.textsWith(0), 1);
        t.due("in bodies", index.textsWith(1), 1);
        t.due("no more changes", index.nearest(), 0);
        Tester.takeWord(index, "bux");
        index.nearest();
        t.due("only in a body", Tester.word(index), "bus");
    }
}
