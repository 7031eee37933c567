import java.util.function.Consumer;
import java.util.function.Supplier;

/**
 * The exceptions that the document names, each by its own test. A refused call is made on one of two objects that
 * were made alike, and both have to look alike behind it.
 */
final class RefusalSentences {
    private static final int MIN = Tester.MIN;
    private static final int MAX = Tester.MAX;
    private static final int[] NO_KEYS = {-1, 100, MIN, MAX};
    private static final int[] NO_FIELDS = {-1, 2, MIN, MAX};
    private static final int[] NO_SHELVES = {-1, 8, MIN, MAX};
    private static final int[] NO_RANKS = {-1, 1000, MIN, MAX};

    private final Tester t;

    RefusalSentences(Tester tester) {
        t = tester;
    }

    // ---- objects in all kinds of states

    /** Texts in two segments, a marked one among them, and in the buffer; a tape of 20 bytes, and a word. */
    private static BeaconIndex unasked() {
        BeaconIndex index = new BeaconIndex();
        Tester.add(index, 0, 1, 5, "sea storm|the sea");
        Tester.add(index, 1, 7, 999, "bus|sea bus");
        Tester.add(index, 2, 0, 0, "storm|");
        Tester.add(index, 3, 2, 7, "x y sea");
        index.commit();
        Tester.add(index, 5, 3, 7, "sea bus|storm");
        index.commit();
        index.takeOut(1);
        Tester.add(index, 8, 4, 1, "sea bus|text");
        Tester.add(index, 9, 0, 0, "");
        Tester.takeWord(index, "storms");
        Tester.feed(index, "tap|tape tapes taper");
        return index;
    }

    private static BeaconIndex asked() {
        BeaconIndex index = unasked();
        index.trim(0);
        Tester.ask(index, "sea -x storm^2 \"sea storm\"~3");
        Tester.feed(index, "tap|tape tapes taper");
        return index;
    }

    /** Sixty texts, some of them marked, the last three in the buffer; a tape of 400 bytes. */
    private static BeaconIndex full() {
        BeaconIndex index = new BeaconIndex();
        for (int key = 0; key < 60; key++) {
            Tester.add(index, key, key % 8, key, "sea|w" + key);
            if (key == 39 || key == 56) {
                index.commit();
            }
        }
        index.takeOut(1);
        index.takeOut(50);
        Tester.ask(index, "sea w1* -w13");
        Tester.takeWord(index, "bcdfghjklmnp");
        Tester.feed(index, "tape taper|" + "q ".repeat(194) + "z");
        return index;
    }

    private static BeaconIndex fresh() {
        return new BeaconIndex();
    }

    private void refused(String what, Supplier<BeaconIndex> scene, String exception, Consumer<BeaconIndex> call) {
        BeaconIndex one = scene.get();
        BeaconIndex other = scene.get();
        t.due(what, Tester.thrown(() -> call.accept(one)), exception);
        t.due(what + " again", Tester.thrown(() -> call.accept(one)), exception);
        t.due("what is seen behind " + what, Sight.of(one), Sight.of(other));
    }

    private void refusedAnywhere(String what, String exception, Consumer<BeaconIndex> call) {
        refused(what + " (new)", RefusalSentences::fresh, exception, call);
        refused(what + " (without a question)", RefusalSentences::unasked, exception, call);
        refused(what + " (with a question)", RefusalSentences::asked, exception, call);
        refused(what + " (full)", RefusalSentences::full, exception, call);
    }

    private void refusedBehindAQuestion(String what, String exception, Consumer<BeaconIndex> call) {
        refused(what + " (with a question)", RefusalSentences::asked, exception, call);
        refused(what + " (full)", RefusalSentences::full, exception, call);
    }

    private void refusedWithoutQuestion(String what, Consumer<BeaconIndex> call) {
        refused(what + " (new)", RefusalSentences::fresh, Tester.ISE, call);
        refused(what + " (without a question)", RefusalSentences::unasked, Tester.ISE, call);
        BeaconIndex index = RefusalSentences.asked();
        t.due(what + " with a question", Tester.thrown(() -> call.accept(index)), Tester.NOTHING);
        index.trim(0);
        Tester.ask(index, "(");
        t.due(what + " behind an error", Tester.thrown(() -> call.accept(index)), Tester.NOTHING);
    }

    /** That the scenes are what they are said to be, and that a difference would be seen. */
    @Sentence(of = "Section 4", says = "A method that throws an exception changes nothing.")
    void scenesAreAsTold() {
        BeaconIndex index = asked();
        t.due("texts", index.texts() + " " + index.buffered() + " " + index.segments(), "7 2 2");
        t.due("found", index.found(), 3);
        t.due("tape", Tester.tapeBytes(index), 20);
        BeaconIndex filled = full();
        t.due("texts of a full one", filled.texts() + " " + filled.buffered() + " " + filled.segments(), "60 3 2");
        t.due("tape of a full one", Tester.tapeBytes(filled), 400);
        t.due("questions", asked().parts() + filled.parts(), 7);
        t.due("alike", Sight.of(asked()), Sight.of(asked()));
        differs("a question", i -> { }, unasked());
        differs("trim", i -> i.trim(19), asked());
        differs("takeOut", i -> i.takeOut(8), asked());
        differs("takeOut of a segment", i -> i.takeOut(2), asked());
        differs("takeWord", BeaconIndex::takeWord, asked());
        differs("commit", BeaconIndex::commit, asked());
        differs("mergeAll", BeaconIndex::mergeAll, asked());
        differs("ask", BeaconIndex::ask, asked());
        differs("add", i -> i.add(9, 0, 0), asked());
        differs("nearest", i -> i.takeOut(3), asked());
    }

    private void differs(String what, Consumer<BeaconIndex> change, BeaconIndex index) {
        change.accept(index);
        t.due("a difference by " + what, Sight.of(index).equals(Sight.of(asked())), false);
    }

    // ---- the tape and the texts

    @Sentence(of = "Promise 2", says = "Throws `IllegalStateException` if there would be more than 400")
    void feedRefuses() {
        refused("feed (full)", RefusalSentences::full, Tester.ISE, i -> i.feed(1, 2, 3, 4, 5));
        refused("feed behind 381", () -> tapeOf(381), Tester.ISE, i -> i.feed(1, 2, 3, 4, 5));
        refused("feed behind 399", () -> tapeOf(399), Tester.ISE, i -> i.feed(-1, MIN, MAX, 4, 5));
        BeaconIndex index = tapeOf(380);
        t.due("feed behind 380", Tester.thrown(() -> index.feed(1, 2, 3, 4, 5)), Tester.NOTHING);
    }

    private static BeaconIndex tapeOf(int bytes) {
        BeaconIndex index = unasked();
        index.trim(0);
        Tester.feed(index, "q ".repeat(200).substring(0, bytes));
        return index;
    }

    @Sentence(of = "Promise 3", says = "Throws `IllegalArgumentException` if n is not 0 to the number of bytes of the tape")
    void trimRefuses() {
        for (int n : new int[] {-1, 401, MIN, MAX}) {
            refusedAnywhere("trim(" + n + ")", Tester.IAE, i -> i.trim(n));
        }
        refused("trim(1) of an empty tape", RefusalSentences::fresh, Tester.IAE, i -> i.trim(1));
        refused("trim(21) of 20 bytes", RefusalSentences::asked, Tester.IAE, i -> i.trim(21));
        refused("trim(400) of 399", () -> tapeOf(399), Tester.IAE, i -> i.trim(400));
        t.due("trim(20) of 20 bytes", asked().trim(20), 20);
        t.due("trim(400) of 400 bytes", full().trim(400), 400);
        t.due("trim(0)", full().trim(0), 0);
    }

    @Sentence(of = "Promise 4", says = "Throws `IllegalArgumentException` if key is not 0 to 99, shelf is not 0 to 7, or rank is not 0 to 999")
    void addRefusesWrongNumbers() {
        for (int key : NO_KEYS) {
            refusedAnywhere("add with key " + key, Tester.IAE, i -> i.add(key, 0, 0));
        }
        for (int shelf : NO_SHELVES) {
            refusedAnywhere("add with shelf " + shelf, Tester.IAE, i -> i.add(8, shelf, 0));
        }
        for (int rank : NO_RANKS) {
            refusedAnywhere("add with rank " + rank, Tester.IAE, i -> i.add(0, 0, rank));
        }
        refusedAnywhere("add with all wrong", Tester.IAE, i -> i.add(-1, 8, 1000));
    }

    @Sentence(of = "Promise 4", says = "Throws `IllegalStateException` if there would be more than 60 texts")
    void addRefusesTheSixtyFirst() {
        refused("add of a new key", RefusalSentences::full, Tester.ISE, i -> i.add(60, 0, 0));
        refused("add of a key in a segment", RefusalSentences::full, Tester.ISE, i -> i.add(0, 0, 0));
        refused("add of a key of the last segment", RefusalSentences::full, Tester.ISE, i -> i.add(56, 0, 0));
        refused("add of a marked key", RefusalSentences::full, Tester.ISE, i -> i.add(50, 0, 0));
        BeaconIndex index = full();
        t.due("add of a buffered key", Tester.thrown(() -> index.add(57, 0, 0)), Tester.NOTHING);
        t.due("still full", index.texts(), 60);
    }

    @Sentence(of = "Promise 5", says = "Throws `IllegalArgumentException` if key is not 0 to 99")
    void takeOutRefusesWrongKeys() {
        for (int key : NO_KEYS) {
            refusedAnywhere("takeOut(" + key + ")", Tester.IAE, i -> i.takeOut(key));
        }
    }

    @Sentence(of = "Promise 5", says = "Throws `IllegalStateException` if there is no text with this key (that is not marked)")
    void takeOutRefusesWhatIsNotThere() {
        refusedAnywhere("takeOut of no text", Tester.ISE, i -> i.takeOut(99));
        refused("takeOut of nothing at all", RefusalSentences::fresh, Tester.ISE, i -> i.takeOut(0));
        refused("takeOut of a marked one", RefusalSentences::asked, Tester.ISE, i -> i.takeOut(1));
        refused("takeOut of a marked one of many", RefusalSentences::full, Tester.ISE, i -> i.takeOut(50));
        BeaconIndex index = asked();
        index.takeOut(8);
        t.due("takeOut of one that is gone", Tester.thrown(() -> index.takeOut(8)), Tester.ISE);
        index.takeOut(5);
        t.due("takeOut of one that was marked now", Tester.thrown(() -> index.takeOut(5)), Tester.ISE);
        index.mergeAll();
        t.due("takeOut of one that has gone for good", Tester.thrown(() -> index.takeOut(1)), Tester.ISE);
    }

    // ---- segments

    private void refusesSegments(String method, SegmentCall call) {
        for (int segment : new int[] {-1, 2, MIN, MAX}) {
            refusedAnywhere(method + " of segment " + segment, Tester.IOOBE, i -> call.of(i, segment));
        }
        refused(method + " without segments", RefusalSentences::fresh, Tester.IOOBE, i -> call.of(i, 0));
        t.due(method + " of the first", Tester.thrown(() -> call.of(asked(), 0)), Tester.NOTHING);
        t.due(method + " of the last", Tester.thrown(() -> call.of(asked(), 1)), Tester.NOTHING);
        BeaconIndex index = asked();
        index.mergeAll();
        t.due(method + " of one that was merged", Tester.thrown(() -> call.of(index, 1)), Tester.IOOBE);
    }

    private interface SegmentCall {
        void of(BeaconIndex index, int segment);
    }

    private void refusesTexts(String method, TextCall call) {
        for (int text : new int[] {-1, 4, MIN, MAX}) {
            refused(method + " of text " + text, RefusalSentences::asked, Tester.IOOBE, i -> call.of(i, 0, text));
        }
        refused(method + " behind the last text", RefusalSentences::asked, Tester.IOOBE, i -> call.of(i, 1, 1));
        refused(method + " behind forty texts", RefusalSentences::full, Tester.IOOBE, i -> call.of(i, 0, 40));
        refused(method + " of no segment", RefusalSentences::asked, Tester.IOOBE, i -> call.of(i, 2, 4));
        t.due(method + " of the last text", Tester.thrown(() -> call.of(asked(), 0, 3)), Tester.NOTHING);
        t.due(method + " of the only text", Tester.thrown(() -> call.of(asked(), 1, 0)), Tester.NOTHING);
    }

    private interface TextCall {
        void of(BeaconIndex index, int segment, int text);
    }

    @Sentence(of = "Promise 12", says = "Throws `IndexOutOfBoundsException` if there is no such segment")
    void textsInRefuses() {
        refusesSegments("textsIn", BeaconIndex::textsIn);
    }

    @Sentence(of = "Promise 13", says = "Throws `IndexOutOfBoundsException` if there is no such segment")
    void markedInRefuses() {
        refusesSegments("markedIn", BeaconIndex::markedIn);
    }

    @Sentence(of = "Promise 14", says = "Throws `IndexOutOfBoundsException` if there is no such segment")
    void levelOfRefuses() {
        refusesSegments("levelOf", BeaconIndex::levelOf);
    }

    @Sentence(of = "Promise 15", says = "Throws `IndexOutOfBoundsException` if there is no such segment or field")
    void wordsInRefuses() {
        refusesSegments("wordsIn", (i, segment) -> i.wordsIn(segment, 0));
        for (int field : NO_FIELDS) {
            refusedBehindAQuestion("wordsIn of field " + field, Tester.IOOBE, i -> i.wordsIn(0, field));
            refusedAnywhere("wordsIn of nothing", Tester.IOOBE, i -> i.wordsIn(2, field));
        }
        t.due("wordsIn of the body", Tester.thrown(() -> asked().wordsIn(1, 1)), Tester.NOTHING);
    }

    @Sentence(of = "Promise 16", says = "Throws `IndexOutOfBoundsException` if there is no such segment, or no such text in it")
    void keyAtRefuses() {
        refusesSegments("keyAt", (i, segment) -> i.keyAt(segment, 0));
        refusesTexts("keyAt", BeaconIndex::keyAt);
    }

    @Sentence(of = "Promise 17", says = "Throws `IndexOutOfBoundsException` if there is no such segment, or no such text in it")
    void isMarkedRefuses() {
        refusesSegments("isMarked", (i, segment) -> i.isMarked(segment, 0));
        refusesTexts("isMarked", BeaconIndex::isMarked);
    }

    @Sentence(of = "Promise 18", says = "Throws `IndexOutOfBoundsException` if there is no such segment, or no such text in it, or no such field")
    void lengthOfRefuses() {
        refusesSegments("lengthOf", (i, segment) -> i.lengthOf(segment, 0, 0));
        refusesTexts("lengthOf", (i, segment, text) -> i.lengthOf(segment, text, 1));
        for (int field : NO_FIELDS) {
            refusedBehindAQuestion("lengthOf of field " + field, Tester.IOOBE, i -> i.lengthOf(0, 0, field));
        }
    }

    @Sentence(of = "Promise 19", says = "Throws `IllegalArgumentException` if key is not 0 to 99")
    void segmentOfRefuses() {
        for (int key : NO_KEYS) {
            refusedAnywhere("segmentOf(" + key + ")", Tester.IAE, i -> i.segmentOf(key));
        }
    }

    @Sentence(of = "Promise 20", says = "Throws `IllegalArgumentException` if key is not 0 to 99")
    void shelfOfRefuses() {
        for (int key : NO_KEYS) {
            refusedAnywhere("shelfOf(" + key + ")", Tester.IAE, i -> i.shelfOf(key));
        }
    }

    // ---- the word

    @Sentence(of = "Promise 22", says = "Throws `IndexOutOfBoundsException` if there is none")
    void wordByteRefuses() {
        for (int k : new int[] {-1, 12, 13, MIN, MAX}) {
            refusedAnywhere("wordByte(" + k + ")", Tester.IOOBE, i -> i.wordByte(k));
        }
        refused("wordByte(0) of the empty word", RefusalSentences::fresh, Tester.IOOBE, i -> i.wordByte(0));
        refused("wordByte(5) of storm", RefusalSentences::asked, Tester.IOOBE, i -> i.wordByte(5));
        t.due("wordByte(4) of storm", asked().wordByte(4), (int) 'm');
        t.due("wordByte(11) of twelve", full().wordByte(11), (int) 'p');
    }

    @Sentence(of = "Promise 23", says = "Throws `IndexOutOfBoundsException` if there is no such field")
    void textsWithRefuses() {
        for (int field : NO_FIELDS) {
            refusedAnywhere("textsWith(" + field + ")", Tester.IOOBE, i -> i.textsWith(field));
        }
    }

    @Sentence(of = "Promise 24", says = "Throws `IllegalArgumentException` if key is not 0 to 99")
    void timesInRefusesWrongKeys() {
        for (int key : NO_KEYS) {
            refusedAnywhere("timesIn of key " + key, Tester.IAE, i -> i.timesIn(key, 0));
        }
    }

    @Sentence(of = "Promise 24", says = "Throws `IndexOutOfBoundsException` if there is no such field")
    void timesInRefusesWrongFields() {
        for (int field : NO_FIELDS) {
            refusedAnywhere("timesIn of field " + field, Tester.IOOBE, i -> i.timesIn(0, field));
            refusedAnywhere("timesIn of no text, field " + field, Tester.IOOBE, i -> i.timesIn(99, field));
        }
    }

    @Sentence(of = "Promise 25", says = "Throws `IndexOutOfBoundsException` if there is no such field")
    void rarityRefuses() {
        for (int field : NO_FIELDS) {
            refusedAnywhere("rarity(" + field + ")", Tester.IOOBE, i -> i.rarity(field));
        }
    }

    // ---- questions

    @Sentence(of = "Promise 28", says = "Throws `IllegalStateException` if there is no question")
    void partsRefuses() {
        refusedWithoutQuestion("parts", BeaconIndex::parts);
    }

    @Sentence(of = "Promise 29", says = "Throws `IllegalStateException` if there is no question")
    void foundRefuses() {
        refusedWithoutQuestion("found", BeaconIndex::found);
    }

    @Sentence(of = "Promise 30", says = "Throws `IllegalStateException` if there is no question")
    void keyFoundRefusesWithoutAQuestion() {
        refusedWithoutQuestion("keyFound", i -> i.keyFound(0));
    }

    @Sentence(of = "Promise 31", says = "Throws `IllegalStateException` if there is no question")
    void weightFoundRefusesWithoutAQuestion() {
        refusedWithoutQuestion("weightFound", i -> i.weightFound(0));
    }

    @Sentence(of = "Promise 32", says = "Throws `IllegalStateException` if there is no question")
    void foundOnRefusesWithoutAQuestion() {
        refusedWithoutQuestion("foundOn", i -> i.foundOn(0));
    }

    @Sentence(of = "Promise 33", says = "Throws `IllegalStateException` if there is no question")
    void placeOfRefusesWithoutAQuestion() {
        refusedWithoutQuestion("placeOf", i -> i.placeOf(0));
    }

    @Sentence(of = "Promise 34", says = "Throws `IllegalStateException` if there is no question")
    void partWeightRefusesWithoutAQuestion() {
        refusedWithoutQuestion("partWeight", i -> i.partWeight(0, 0));
    }

    @Sentence(of = "Promise 35", says = "Throws `IllegalStateException` if there is no question")
    void foundWithoutRefusesWithoutAQuestion() {
        refusedWithoutQuestion("foundWithout", i -> i.foundWithout(0));
    }

    @Sentence(of = "Promise 36", says = "Throws `IllegalStateException` if there is no question")
    void firstFitRefusesWithoutAQuestion() {
        refusedWithoutQuestion("firstFit", i -> i.firstFit(0, 0));
    }

    @Sentence(of = "Promise 37", says = "Throws `IllegalStateException` if there is no question")
    void meanWeightRefuses() {
        refusedWithoutQuestion("meanWeight", BeaconIndex::meanWeight);
    }

    private void refusesPlaces(String method, PlaceCall call) {
        for (int place : new int[] {-1, 60, MIN, MAX}) {
            refusedBehindAQuestion(method + " of place " + place, Tester.IOOBE, i -> call.of(i, place));
        }
        refused(method + " of place 3 of 3", RefusalSentences::asked, Tester.IOOBE, i -> call.of(i, 3));
        t.due(method + " of place 2 of 3", Tester.thrown(() -> call.of(asked(), 2)), Tester.NOTHING);
        BeaconIndex none = asked();
        none.trim(0);
        Tester.ask(none, "none");
        t.due(method + " of place 0 of none", Tester.thrown(() -> call.of(none, 0)), Tester.IOOBE);
        BeaconIndex less = asked();
        less.takeOut(0);
        t.due(method + " of the last place behind takeOut", Tester.thrown(() -> call.of(less, 2)), Tester.IOOBE);
    }

    private interface PlaceCall {
        void of(BeaconIndex index, int place);
    }

    @Sentence(of = "Promise 30", says = "Throws `IndexOutOfBoundsException` if it finds not so many, or place is less than 0")
    void keyFoundRefusesPlaces() {
        refusesPlaces("keyFound", BeaconIndex::keyFound);
    }

    @Sentence(of = "Promise 31", says = "Throws `IndexOutOfBoundsException` if it finds not so many, or place is less than 0")
    void weightFoundRefusesPlaces() {
        refusesPlaces("weightFound", BeaconIndex::weightFound);
    }

    @Sentence(of = "Promise 32", says = "Throws `IndexOutOfBoundsException` if there is no such shelf")
    void foundOnRefusesShelves() {
        for (int shelf : NO_SHELVES) {
            refusedBehindAQuestion("foundOn(" + shelf + ")", Tester.IOOBE, i -> i.foundOn(shelf));
        }
    }

    @Sentence(of = "Promise 33", says = "Throws `IllegalArgumentException` if key is not 0 to 99")
    void placeOfRefusesKeys() {
        for (int key : NO_KEYS) {
            refusedBehindAQuestion("placeOf(" + key + ")", Tester.IAE, i -> i.placeOf(key));
        }
    }

    @Sentence(of = "Promise 34", says = "Throws `IllegalArgumentException` if key is not 0 to 99")
    void partWeightRefusesKeys() {
        for (int key : NO_KEYS) {
            refusedBehindAQuestion("partWeight of key " + key, Tester.IAE, i -> i.partWeight(key, 0));
        }
    }

    @Sentence(of = "Promise 34", says = "Throws `IndexOutOfBoundsException` if there is no such part")
    void partWeightRefusesParts() {
        for (int part : new int[] {-1, 4, 40, MIN, MAX}) {
            refusedBehindAQuestion("partWeight of part " + part, Tester.IOOBE, i -> i.partWeight(0, part));
            refusedBehindAQuestion("partWeight of no text, part " + part, Tester.IOOBE, i -> i.partWeight(99, part));
        }
        refused("partWeight of part 3 of 3", RefusalSentences::full, Tester.IOOBE, i -> i.partWeight(0, 3));
        t.due("partWeight of part 3 of 4", Tester.thrown(() -> asked().partWeight(0, 3)), Tester.NOTHING);
    }

    @Sentence(of = "Promise 35", says = "Throws `IndexOutOfBoundsException` if there is no such part")
    void foundWithoutRefusesParts() {
        for (int part : new int[] {-1, 4, 40, MIN, MAX}) {
            refusedBehindAQuestion("foundWithout(" + part + ")", Tester.IOOBE, i -> i.foundWithout(part));
        }
        refused("foundWithout(3) of 3", RefusalSentences::full, Tester.IOOBE, i -> i.foundWithout(3));
        t.due("foundWithout(3) of 4", Tester.thrown(() -> asked().foundWithout(3)), Tester.NOTHING);
        BeaconIndex index = asked();
        index.trim(0);
        Tester.ask(index, "(sea bus storm)");
        t.due("foundWithout(1) of parts in a part", Tester.thrown(() -> index.foundWithout(1)), Tester.IOOBE);
    }

    @Sentence(of = "Promise 36", says = "Throws `IllegalArgumentException` if key is not 0 to 99")
    void firstFitRefusesKeys() {
        for (int key : NO_KEYS) {
            refusedBehindAQuestion("firstFit of key " + key, Tester.IAE, i -> i.firstFit(key, 0));
        }
    }

    @Sentence(of = "Promise 36", says = "Throws `IndexOutOfBoundsException` if there is no such field")
    void firstFitRefusesFields() {
        for (int field : NO_FIELDS) {
            refusedBehindAQuestion("firstFit of field " + field, Tester.IOOBE, i -> i.firstFit(0, field));
            refusedBehindAQuestion("firstFit of no text, field " + field, Tester.IOOBE, i -> i.firstFit(99, field));
        }
    }

    // ---- several at once

    @Sentence(of = "Section 4", says = "If several exceptions apply, the one that is named first is thrown.")
    void theFirstNamedIsThrown() {
        refused("add: key, and full", RefusalSentences::full, Tester.IAE, i -> i.add(100, 0, 0));
        refused("add: shelf, and full", RefusalSentences::full, Tester.IAE, i -> i.add(60, 8, 0));
        refused("add: rank, and full", RefusalSentences::full, Tester.IAE, i -> i.add(60, 0, 1000));
        refusedAnywhere("takeOut: key, and no text", Tester.IAE, i -> i.takeOut(100));
        refusedAnywhere("timesIn: key and field", Tester.IAE, i -> i.timesIn(100, 2));
        refusedAnywhere("timesIn: key and field, below", Tester.IAE, i -> i.timesIn(-1, -1));
        refusedWithoutAnyQuestion("keyFound", i -> i.keyFound(-1));
        refusedWithoutAnyQuestion("weightFound", i -> i.weightFound(-1));
        refusedWithoutAnyQuestion("foundOn", i -> i.foundOn(8));
        refusedWithoutAnyQuestion("placeOf", i -> i.placeOf(100));
        refusedWithoutAnyQuestion("partWeight: key", i -> i.partWeight(100, 0));
        refusedWithoutAnyQuestion("partWeight: part", i -> i.partWeight(0, 40));
        refusedWithoutAnyQuestion("partWeight: both", i -> i.partWeight(-1, -1));
        refusedWithoutAnyQuestion("foundWithout", i -> i.foundWithout(-1));
        refusedWithoutAnyQuestion("firstFit: key", i -> i.firstFit(100, 0));
        refusedWithoutAnyQuestion("firstFit: field", i -> i.firstFit(0, 2));
        refusedWithoutAnyQuestion("firstFit: both", i -> i.firstFit(-1, -1));
        refusedBehindAQuestion("partWeight: key and part", Tester.IAE, i -> i.partWeight(100, 40));
        refusedBehindAQuestion("partWeight: key and part, below", Tester.IAE, i -> i.partWeight(-1, -1));
        refusedBehindAQuestion("firstFit: key and field", Tester.IAE, i -> i.firstFit(100, 2));
        refusedBehindAQuestion("firstFit: key and field, below", Tester.IAE, i -> i.firstFit(-1, -1));
    }

    private void refusedWithoutAnyQuestion(String what, Consumer<BeaconIndex> call) {
        refused(what + " (new)", RefusalSentences::fresh, Tester.ISE, call);
        refused(what + " (without a question)", RefusalSentences::unasked, Tester.ISE, call);
    }
}
