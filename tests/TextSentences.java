/** Section 1, the tape, and the promises 1 to 5, 21 and 22: each sentence that names a boundary case. */
final class TextSentences {
    private static final String RUN_BYTES = "0123456789ABCDEFGHIJKLMNOPQRSTUVWXYZabcdefghijklmnopqrstuvwxyz";
    private static final String[] SMALL = {"the", "a", "an", "of", "and", "or", "to", "in"};
    private final Tester t;

    TextSentences(Tester tester) {
        t = tester;
    }

    private void becomes(String run, String word) {
        t.due("word of " + run, Tester.takeWord(new BeaconIndex(), run), word);
        BeaconIndex index = Tester.with("|" + run);
        Tester.takeWord(index, run);
        t.due("times of " + run + " in a text", index.timesIn(0, 1), 1);
        t.due("nearest to " + run, index.nearest(), 0);
        t.due("the word of the text " + run, Tester.word(index), word);
    }

    /** A text of this alone: how many words, and how long its fields are. */
    private void fields(String text, int words, int title, int body) {
        BeaconIndex index = new BeaconIndex();
        t.due("words of " + text, Tester.add(index, 0, text), words);
        index.commit();
        t.due("title of " + text, index.lengthOf(0, 0, 0), title);
        t.due("body of " + text, index.lengthOf(0, 0, 1), body);
    }

    // ---- what is said ahead of the sections

    @Sentence(of = "What it is", says = "An object is used for at most 512 calls after it has been made")
    void theLastCallAnswers() {
        BeaconIndex index = new BeaconIndex();
        for (int n = 0; n < 170; n++) {
            Tester.feed(index, "sea" + n);
            index.takeWord();
        }
        t.due("call 511", index.commit(), 0);
        t.due("call 512", index.digest(),
            Tester.folded(0, 0, 0, 0, 6, 's', 'e', 'a', '1', '6', '9', 0, 64, 0, 64, 0).longValue());
    }

    @Sentence(of = "What it is", says = "An object is used for at most 512 calls after it has been made")
    void aFullObjectAnswersToo() {
        BeaconIndex index = new BeaconIndex();
        for (int key = 0; key < 60; key++) {
            Tester.add(index, key, "k" + key + "|sea");
        }
        index.commit();
        for (int n = 0; n < 100; n++) {
            Tester.ask(index, "(sea k" + n % 60 + "*)^9");
        }
        for (int key = 0; key < 30; key++) {
            index.takeOut(key);
        }
        t.due("call 512", index.found(), 30);
    }

    // ---- the tape

    @Sentence(of = "Section 1", says = "The tape is a row of at most 400 bytes")
    void theTapeIsFull() {
        BeaconIndex index = new BeaconIndex();
        for (int n = 1; n <= 20; n++) {
            t.due("feed " + n, index.feed(0x71717171, 0x71717171, 0x71717171, 0x71717171, 0x71717171), 20 * n);
        }
        t.due("feed 21", Tester.thrown(() -> index.feed(0, 0, 0, 0, 0)), Tester.ISE);
        t.due("still full", Tester.tapeBytes(index), 400);
        t.due("one run of 400 bytes", index.add(0, 0, 0), 1);
        t.due("empty again", index.feed(0, 0, 0, 0, 0), 20);
    }

    @Sentence(of = "Section 1", says = "at first empty, which feed and trim fill")
    void theTapeIsEmptyAtFirst() {
        t.due("trim(0)", new BeaconIndex().trim(0), 0);
        t.due("trim(1)", Tester.thrown(() -> new BeaconIndex().trim(1)), Tester.IAE);
        t.due("feed", new BeaconIndex().feed(0, 0, 0, 0, 0), 20);
        t.due("words", new BeaconIndex().add(0, 0, 0), 0);
        t.due("takeWord", new BeaconIndex().takeWord(), 0);
        t.due("ask", new BeaconIndex().ask(), 0);
    }

    @Sentence(of = "Section 1", says = "add() and ask() take it, and it is empty behind them.")
    void addTakesTheTape() {
        BeaconIndex index = new BeaconIndex();
        Tester.add(index, 0, "sea bus");
        t.due("bytes", Tester.tapeBytes(index), 0);
        t.due("the next text is empty", index.add(1, 0, 0), 0);
    }

    @Sentence(of = "Section 1", says = "add() and ask() take it, and it is empty behind them.")
    void askTakesTheTape() {
        BeaconIndex index = new BeaconIndex();
        Tester.ask(index, "sea bus");
        t.due("bytes behind a question", Tester.tapeBytes(index), 0);
        Tester.ask(index, "sea bus (");
        t.due("bytes behind an error", Tester.tapeBytes(index), 0);
        t.due("the next word is empty", index.takeWord(), 0);
    }

    @Sentence(of = "Promise 2", says = "the four bytes of each number, the highest one first.")
    void numbersAreFedHighestFirst() {
        BeaconIndex index = new BeaconIndex();
        index.feed(0x61626364, 0x65666768, 0x696a6b6c, 0x7c6d6e6f, 0x70717273);
        index.add(0, 0, 0);
        index.commit();
        Tester.takeWord(index, "abcdefghijkl");
        t.due("the first twelve", index.timesIn(0, 0), 1);
        Tester.takeWord(index, "mnopqrs");
        t.due("the last seven", index.timesIn(0, 1), 1);
    }

    @Sentence(of = "Promise 2", says = "the four bytes of each number, the highest one first.")
    void leastAndGreatestNumbersAreFed() {
        BeaconIndex index = new BeaconIndex();
        index.feed(-1, Tester.MIN, Tester.MAX, 0xc1e163ff, 0x00620080);
        t.due("words", index.add(0, 0, 0), 2);
        index.commit();
        Tester.ask(index, "\"c b\"");
        t.due("the third byte of the fourth and the second of the fifth", index.firstFit(0, 1), 0);
        t.due("nothing else", index.lengthOf(0, 0, 0) * 10 + index.lengthOf(0, 0, 1), 2);
    }

    @Sentence(of = "Promise 2", says = "Returns the number of bytes of the tape.")
    void feedTellsTheBytes() {
        BeaconIndex index = new BeaconIndex();
        t.due("of an empty tape", index.feed(0, 0, 0, 0, 0), 20);
        t.due("again", index.feed(0, 0, 0, 0, 0), 40);
        index.trim(7);
        t.due("behind a trim", index.feed(0, 0, 0, 0, 0), 27);
    }

    @Sentence(of = "Promise 2", says = "if there would be more than 400")
    void theTapeIsFilledToTheLastByte() {
        BeaconIndex index = new BeaconIndex();
        Tester.feed(index, "q".repeat(380));
        t.due("380 and 20", index.feed(0x71717171, 0x71717171, 0x71717171, 0x71717171, 0x71717171), 400);
        index.trim(381);
        t.due("381 and 20", Tester.thrown(() -> index.feed(0, 0, 0, 0, 0)), Tester.ISE);
        index.trim(380);
        t.due("380 and 20 again", index.feed(0, 0, 0, 0, 0), 400);
    }

    @Sentence(of = "Promise 3", says = "Shortens the tape to its first bytes.")
    void trimKeepsTheFirstBytes() {
        BeaconIndex index = new BeaconIndex();
        Tester.feed(index, "bcdef ghi");
        index.trim(2);
        index.takeWord();
        t.due("two bytes", Tester.word(index), "bc");
        Tester.feed(index, "bcdef ghi");
        index.trim(9);
        t.due("all bytes", index.add(0, 0, 0), 2);
        Tester.feed(index, "bcdef ghi");
        index.trim(0);
        t.due("no byte", index.add(0, 0, 0), 0);
        Tester.feed(index, "bcdef ghi");
        index.trim(1);
        index.feed(0x7a207a20, 0, 0, 0, 0);
        index.takeWord();
        t.due("what was cut off does not come back", Tester.word(index), "bz");
    }

    @Sentence(of = "Promise 3", says = "Returns n.")
    void trimTellsItsNumber() {
        BeaconIndex index = new BeaconIndex();
        Tester.feed(index, "q".repeat(400));
        for (int n : new int[] {400, 399, 20, 20, 1, 0, 0}) {
            t.due("trim(" + n + ")", index.trim(n), n);
            t.due("bytes", Tester.tapeBytes(index), n);
        }
    }

    // ---- runs and words

    @Sentence(of = "Section 1", says = "Letters are A to Z and a to z, digits 0 to 9.")
    void eachByteIsALetterOrNot() {
        for (int b = 0; b < 256; b++) {
            BeaconIndex index = new BeaconIndex();
            boolean joins = RUN_BYTES.indexOf(b) >= 0;
            t.due("x and y around the byte " + b, Tester.add(index, 0, "x" + (char) b + "y"), joins ? 1 : 2);
            Tester.takeWord(index, "" + (char) b);
            t.due("a word of the byte " + b, Tester.word(index), joins ? ("" + (char) b).toLowerCase() : "");
        }
    }

    @Sentence(of = "Section 1", says = "A run is a row of letters and digits that is as long as can be.")
    void runsAreAsLongAsCanBe() {
        fields("q".repeat(400), 1, 0, 1);
        fields("1a2B3c", 1, 0, 1);
        fields("q", 1, 0, 1);
        fields(" q ", 1, 0, 1);
        fields("q  -  q", 2, 0, 2);
        fields("q ".repeat(200), 200, 0, 200);
        fields(" q".repeat(200), 200, 0, 200);
        fields("...", 0, 0, 0);
    }

    @Sentence(of = "Section 1", says = "the first 12 bytes of it")
    void wordsHaveTwelveBytes() {
        becomes("bcdfghjklmn", "bcdfghjklmn");
        becomes("bcdfghjklmnp", "bcdfghjklmnp");
        becomes("bcdfghjklmnpq", "bcdfghjklmnp");
        becomes("q".repeat(390), "q".repeat(12));
        BeaconIndex index = Tester.with("bcdfghjklmnpq bcdfghjklmnpr bcdfghjklmnq");
        t.due("different words", index.wordsIn(0, 1), 2);
    }

    @Sentence(of = "Section 1", says = "A to Z made a to z")
    void lettersAreFolded() {
        becomes("AZaz09", "azaz09");
        becomes("FLIES", "fly");
        becomes("BED9", "bed9");
        t.due("different words", Tester.with("sea SEA Sea sEa").wordsIn(0, 1), 1);
    }

    @Sentence(of = "Section 1", says = "then shortened, by the first of these that is so")
    void itIsCutAheadOfShortening() {
        becomes("bcdfghjklmiesx", "bcdfghjklmie");
        becomes("bcdfghjkliesx", "bcdfghjkly");
        becomes("bcdfghjksses", "bcdfghjkss");
        becomes("bcdfghjkssesx", "bcdfghjkss");
        becomes("bcdfghjklmns", "bcdfghjklmn");
        becomes("bcdfghjklmnsx", "bcdfghjklmn");
        becomes("bcdfghjklmnps", "bcdfghjklmnp");
        becomes("bcdfghjklingx", "bcdfghjkl");
        becomes("bcdfghjklmedx", "bcdfghjklm");
        becomes("bcdfghjklming", "bcdfghjklmin");
    }

    @Sentence(of = "Section 1", says = "it ends with ies and has more than 4 bytes: y in the place of ies")
    void iesBecomesY() {
        becomes("ies", "ies");
        becomes("ties", "tie");
        becomes("flies", "fly");
        becomes("IIIES", "iiy");
        becomes("storys", "story");
        becomes("iesx", "iesx");
    }

    @Sentence(of = "Section 1", says = "it ends with sses: the last two bytes go")
    void ssesLosesTwo() {
        becomes("sses", "ss");
        becomes("asses", "ass");
        becomes("glasses", "glass");
        becomes("buses", "buse");
        becomes("ses", "ses");
    }

    @Sentence(of = "Section 1", says = "it ends with s, but not with ss or us, and has more than 3 bytes: the s goes")
    void sGoes() {
        becomes("s", "s");
        becomes("as", "as");
        becomes("gas", "gas");
        becomes("seas", "sea");
        becomes("ss", "ss");
        becomes("glass", "glass");
        becomes("us", "us");
        becomes("abus", "abus");
        becomes("ussu", "ussu");
        becomes("sus1s", "sus1");
    }

    @Sentence(of = "Section 1", says = "it ends with ing and has more than 5 bytes: ing goes")
    void ingGoes() {
        becomes("ing", "ing");
        becomes("king", "king");
        becomes("sting", "sting");
        becomes("string", "str");
        becomes("ingots", "ingot");
    }

    @Sentence(of = "Section 1", says = "it ends with ed and has more than 4 bytes: ed goes.")
    void edGoes() {
        becomes("ed", "ed");
        becomes("bed", "bed");
        becomes("need", "need");
        becomes("naled", "nal");
        becomes("wanted", "want");
    }

    @Sentence(of = "Section 1", says = "(Only one of them is done, once.)")
    void onlyOneIsDone() {
        becomes("weddings", "wedding");
        becomes("bossesses", "bossess");
        becomes("bosseses", "bossese");
        becomes("singinging", "singing");
        becomes("aabeded", "aabed");
        becomes("aabedies", "aabedy");
        becomes("aabieses", "aabiese");
        becomes("aabseding", "aabsed");
        becomes("aabsing", "aabs");
        becomes("aabsed", "aabs");
    }

    // ---- small words

    @Sentence(of = "Section 1", says = "Small words are the runs the, a, an, of, and, or, to, in (folded, ahead of shortening)")
    void smallWordsAreFolded() {
        for (String small : SMALL) {
            fields(small, 0, 0, 1);
            fields(small.toUpperCase() + "|x", 1, 1, 1);
        }
        fields("tHe An oF|aNd tO", 0, 3, 2);
    }

    @Sentence(of = "Section 1", says = "(folded, ahead of shortening)")
    void nothingElseIsSmall() {
        fields("thes anding ofs ored tos ina th t o i n d aa ans", 14, 0, 14);
        becomes("thes", "the");
        becomes("anding", "and");
        becomes("orred", "orr");
        BeaconIndex index = Tester.with("thes the");
        Tester.takeWord(index, "the");
        t.due("the word the, which only thes makes", index.timesIn(0, 1), 1);
    }

    @Sentence(of = "Section 1", says = "they are no words, but count as places.")
    void smallWordsCountAsPlaces() {
        BeaconIndex index = Tester.with("the sea of|in to the bus");
        t.due("title", index.lengthOf(0, 0, 0), 3);
        t.due("body", index.lengthOf(0, 0, 1), 4);
        t.due("words of the title", index.wordsIn(0, 0), 1);
        t.due("words of the body", index.wordsIn(0, 1), 1);
        Tester.ask(index, "sea bus");
        t.due("place of sea", index.firstFit(0, 0), 1);
        t.due("place of bus", index.firstFit(0, 1), 3);
        BeaconIndex small = Tester.with("the of|in");
        t.due("no words at all", small.wordsIn(0, 0) + small.wordsIn(0, 1), 0);
        t.due("no word to be near to", small.nearest(), -1);
    }

    // ---- fields

    @Sentence(of = "Section 1", says = "what stands ahead of the first | (byte 124) on the tape")
    void theFirstBarEndsTheTitle() {
        fields("b1|c1|d1", 3, 1, 2);
        fields("b1||d1", 2, 1, 1);
        fields("|c1|d1", 2, 0, 2);
        fields("b1 c1|d1", 3, 2, 1);
        fields("b1|", 1, 1, 0);
        fields("|b1", 1, 0, 1);
        fields("|", 0, 0, 0);
        fields("||", 0, 0, 0);
        fields("b1|d1", 2, 1, 1);
        fields("b1" + (char) 252 + "d1", 2, 0, 2);
        fields("b ".repeat(199) + "b|", 200, 200, 0);
        BeaconIndex index = Tester.with("b1|c1|d1");
        Tester.takeWord(index, "c1");
        t.due("in the title", index.timesIn(0, 0), 0);
        t.due("in the body", index.timesIn(0, 1), 1);
    }

    @Sentence(of = "Section 1", says = "without a | the title is empty, and all is body.")
    void withoutBarAllIsBody() {
        fields("b1 c1", 2, 0, 2);
        fields("", 0, 0, 0);
        fields("   ", 0, 0, 0);
    }

    @Sentence(of = "Section 1", says = "The runs of each field have places, from 0 on.")
    void placesBeginAtZero() {
        BeaconIndex index = Tester.with("sea bus|bus sea");
        Tester.ask(index, "sea");
        t.due("first of the title", index.firstFit(0, 0), 0);
        t.due("second of the body", index.firstFit(0, 1), 1);
        Tester.ask(index, "bus");
        t.due("second of the title", index.firstFit(0, 0), 1);
        t.due("first of the body", index.firstFit(0, 1), 0);
        BeaconIndex last = Tester.with("b ".repeat(199) + "c");
        Tester.ask(last, "c");
        t.due("the last of two hundred", last.firstFit(0, 1), 199);
    }

    @Sentence(of = "Section 1", says = "The length of a field is how many runs it has (small words counted).")
    void lengthCountsSmallWords() {
        fields("the|of", 0, 1, 1);
        fields("the sea|", 1, 2, 0);
        fields("a ".repeat(200), 0, 0, 200);
    }

    @Sentence(of = "Section 1", says = "A text has a key, 0 to 99, a shelf, 0 to 7, and a rank, 0 to 999.")
    void leastAndGreatestAreTaken() {
        BeaconIndex index = new BeaconIndex();
        t.due("the least", Tester.add(index, 0, 0, 0, "sea"), 1);
        t.due("the greatest", Tester.add(index, 99, 7, 999, "sea"), 1);
        index.commit();
        t.due("keys", Tester.keysIn(index, 0), "0 99 ");
        t.due("shelf of the first", index.shelfOf(0), 0);
        t.due("shelf of the last", index.shelfOf(99), 7);
        Tester.ask(index, "sea");
        t.due("the greater rank is ahead", Tester.keys(index), "99 0 ");
    }

    // ---- promises 1, 4 and 5

    @Sentence(of = "Promise 1", says = "Creates an index without texts; there is no question, and the word is empty.")
    void aNewObject() {
        BeaconIndex index = new BeaconIndex();
        t.due("digest", index.digest(), Tester.folded(0, 0, 0, 0, 0, 0, 64, 0, 64, 0).longValue());
        t.due("texts", index.texts() + index.buffered() + index.segments() + index.merges(), 0);
        t.due("question", Tester.thrown(index::found), Tester.ISE);
        t.due("word", Tester.thrown(() -> index.wordByte(0)), Tester.IOOBE);
        for (int key = 0; key < 100; key++) {
            int one = key;
            t.due("text " + key, index.segmentOf(one), -2);
        }
    }

    @Sentence(of = "Promise 1", says = "Creates an index without texts")
    void objectsShareNothing() {
        BeaconIndex full = Tester.with("sea", "bus");
        Tester.feed(full, "sea");
        BeaconIndex fresh = new BeaconIndex();
        Tester.takeWord(full, "sea");
        Tester.ask(full, "sea");
        Tester.feed(full, "sea");
        t.due("digest", fresh.digest(), Tester.folded(0, 0, 0, 0, 0, 0, 64, 0, 64, 0).longValue());
        t.due("tape", Tester.tapeBytes(fresh), 0);
    }

    @Sentence(of = "Promise 4", says = "each as often as it stands there (small ones not counted).")
    void addTellsTheWords() {
        fields("", 0, 0, 0);
        fields("the", 0, 0, 1);
        fields("sea sea SEA seas|sea sea", 6, 4, 2);
        fields("the sea|of the bus", 2, 2, 3);
        fields("b|" + "b ".repeat(199), 200, 1, 199);
    }

    @Sentence(of = "Promise 4", says = "if there would be more than 60 texts")
    void sixtyTextsAreTaken() {
        BeaconIndex index = new BeaconIndex();
        for (int key = 0; key < 59; key++) {
            index.add(key, 0, 0);
        }
        t.due("the 60th", Tester.add(index, 59, "sea"), 1);
        t.due("the 61st", Tester.thrown(() -> index.add(60, 0, 0)), Tester.ISE);
        t.due("one in the place of a buffered one", Tester.add(index, 0, "sea bus"), 2);
        t.due("texts", index.texts(), 60);
    }

    @Sentence(of = "Promise 4", says = "if there would be more than 60 texts")
    void textsOfSegmentsCountForTheSixty() {
        BeaconIndex index = new BeaconIndex();
        for (int key = 0; key < 60; key++) {
            index.add(key, 0, 0);
            if (key == 30) {
                index.commit();
            }
        }
        t.due("the 61st", Tester.thrown(() -> index.add(60, 0, 0)), Tester.ISE);
        t.due("one whose forerunner would only be marked", Tester.thrown(() -> index.add(30, 0, 0)), Tester.ISE);
        t.due("which is not marked", index.markedIn(0), 0);
        t.due("one in the place of a buffered one", Tester.thrown(() -> index.add(31, 0, 0)), Tester.NOTHING);
        index.takeOut(30);
        t.due("a marked one counts on", Tester.thrown(() -> index.add(30, 0, 0)), Tester.ISE);
        index.takeOut(31);
        t.due("one that is gone does not", Tester.thrown(() -> index.add(30, 0, 0)), Tester.NOTHING);
        t.due("full again", Tester.thrown(() -> index.add(31, 0, 0)), Tester.ISE);
    }

    @Sentence(of = "Promise 5", says = "Returns whether it is gone at once.")
    void takeOutTellsWhetherItIsGone() {
        BeaconIndex index = new BeaconIndex();
        Tester.add(index, 0, "sea");
        Tester.add(index, 99, "sea");
        t.due("of the buffer", index.takeOut(0), true);
        index.commit();
        t.due("of a segment", index.takeOut(99), false);
        Tester.add(index, 99, "sea");
        t.due("of the buffer, with a marked one of the key", index.takeOut(99), true);
        t.due("the marked one is left", index.texts(), 1);
    }

    // ---- promises 21 and 22

    @Sentence(of = "Promise 21", says = "Makes the word of the first run on the tape the word (also if that is a small one)")
    void theFirstRunIsTaken() {
        BeaconIndex index = new BeaconIndex();
        t.due("the first of many", Tester.takeWord(index, ".. |seas bus"), "sea");
        for (String small : SMALL) {
            t.due("a small one", Tester.takeWord(index, small + " sea"), small);
        }
        t.due("one that fills the tape", Tester.takeWord(index, "z".repeat(400)), "z".repeat(12));
        t.due("the last byte of the tape", Tester.takeWord(index, " ".repeat(399) + "q"), "q");
    }

    @Sentence(of = "Promise 21", says = "without a run it is empty.")
    void withoutARunTheWordIsEmpty() {
        BeaconIndex index = new BeaconIndex();
        Tester.takeWord(index, "sea");
        t.due("an empty tape", index.takeWord(), 0);
        t.due("the word", Tester.word(index), "");
        Tester.takeWord(index, "sea");
        t.due("signs", Tester.takeWord(index, "+-|~ " + (char) 0 + (char) 255), "");
    }

    @Sentence(of = "Promise 21", says = "The tape is empty behind it.")
    void takeWordEmptiesTheTape() {
        BeaconIndex index = new BeaconIndex();
        Tester.takeWord(index, "sea bus");
        t.due("behind a word", Tester.tapeBytes(index), 0);
        Tester.takeWord(index, "...");
        t.due("behind none", Tester.tapeBytes(index), 0);
        t.due("a second one is empty", index.takeWord(), 0);
    }

    @Sentence(of = "Promise 21", says = "Returns how many bytes it has.")
    void takeWordTellsTheBytes() {
        BeaconIndex index = new BeaconIndex();
        Tester.feed(index, "s");
        t.due("one", index.takeWord(), 1);
        Tester.feed(index, "b".repeat(13));
        t.due("twelve at most", index.takeWord(), 12);
        Tester.feed(index, "flies");
        t.due("those of the word, not of the run", index.takeWord(), 3);
    }

    @Sentence(of = "Promise 22", says = "Returns the byte of the word there.")
    void bytesOfTheWord() {
        BeaconIndex index = new BeaconIndex();
        Tester.takeWord(index, "Az09yXwVuTsR");
        String word = "az09yxwvutsr";
        for (int k = 0; k < 12; k++) {
            t.due("byte " + k, index.wordByte(k), (int) word.charAt(k));
        }
    }
}
