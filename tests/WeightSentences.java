/** Section 4: each sentence that names a boundary case. The logarithm is tried by WordSentences. */
final class WeightSentences {
    /** In the body of the only text there is, of one run that fits, a unit weighs 64 * 22 / (10 + 3 + 9) = 64. */
    private static final String ALONE = "|sea";
    private final Tester t;

    WeightSentences(Tester tester) {
        t = tester;
    }

    /** The weight of the first part for the text 0. */
    private void weighs(BeaconIndex index, String question, int weight) {
        t.due("error of " + question, Tester.ask(index, question), -1);
        t.due("weight of " + question, index.partWeight(0, 0), weight);
    }

    private void questionWeighs(BeaconIndex index, String question, int weight) {
        t.due("error of " + question, Tester.ask(index, question), -1);
        t.due("weight of all of " + question, index.weightFound(0), weight);
    }

    // ---- what counts

    @Sentence(of = "Section 4", says = "For weights all texts in segments count, marked ones too: there are N of them")
    void markedTextsCount() {
        BeaconIndex index = Tester.with("|sea", "|x", "|y");
        weighs(index, "sea", 80);
        index.takeOut(1);
        index.takeOut(2);
        t.due("with two marked ones", index.partWeight(0, 0), 80);
        Tester.add(index, 9, "|sea");
        t.due("with one in the buffer", index.partWeight(0, 0), 80);
        index.mergeAll();
        t.due("alone", index.partWeight(0, 0), 64);
        index.commit();
        t.due("two that have it", index.partWeight(0, 0), 64);
        Tester.add(index, 9, "|x");
        t.due("one of them marked", index.partWeight(0, 0), 64);
        index.commit();
        t.due("merged away, and one that has it not", index.partWeight(0, 0), 72);
    }

    @Sentence(of = "Section 4", says = "the mean length of a field is all its lengths, added, by N, but 1 at least.")
    void theMeanIsOneAtLeast() {
        // One title of one run among three texts: the mean would be 0. 80 * 22 / (13 + 9 * 1 / 1) = 80.
        weighs(Tester.with("sea|", "|x", "|y"), "sea", 160);
        weighs(Tester.with("|sea", "x|", "y|"), "sea", 80);
        // Three runs among three texts: 80 * 22 / (13 + 9 * 3 / 1) = 44.
        weighs(Tester.with("sea x y|", "", ""), "sea", 88);
    }

    @Sentence(of = "Section 4", says = "the mean length of a field is all its lengths, added, by N")
    void theMeanIsCut() {
        // (1 + 2) / 2 is 1: 72 * 22 / (13 + 9).
        weighs(Tester.with("|sea", "|x x"), "sea", 72);
        // (1 + 3) / 2 is 2: 72 * 22 / (13 + 4).
        BeaconIndex index = Tester.with("|sea", "|x x x");
        weighs(index, "sea", 93);
        index.takeOut(1);
        t.due("marked ones count", index.partWeight(0, 0), 93);
        // Small words count: (3 + 1) / 2 is 2: 72 * 22 / (13 + 9 * 3 / 2).
        weighs(Tester.with("|the of sea", "|x"), "sea", 60);
        weighs(Tester.with("|sea", "|the of in"), "sea", 93);
        // Each field has its own: the bodies have (1 + 3) / 2, the titles (1 + 0) / 2 and 1 at least.
        weighs(Tester.with("sea|sea", "|x x x"), "sea", 2 * 72 + 93);
    }

    @Sentence(of = "Section 4", says = "but 1 at least.")
    void thereIsNothingToCount() {
        BeaconIndex index = new BeaconIndex();
        t.due("ask", Tester.ask(index, "sea"), -1);
        t.due("found", index.found(), 0);
        t.due("part", index.partWeight(0, 0), 0);
        BeaconIndex empty = Tester.with("", "|");
        Tester.ask(empty, "sea s* \"sea x\"~1");
        t.due("found in empty texts", empty.found(), 0);
        t.due("part in empty texts", empty.partWeight(0, 2), 0);
    }

    @Sentence(of = "Section 4", says = "The rarity of a run, run with * or phrase in a field is the logarithm of 16 * (N + 1) / (f + 1), where f is in how many texts it fits in this field.")
    void raritiesOfUnits() {
        // Three texts: the rarity is 80 with one, 69 with two and 64 with three that it fits.
        weighs(Tester.with("|sea", "|storm", "|x"), "sea", 80);
        weighs(Tester.with("|sea", "|storm", "|x"), "s*", 69);
        weighs(Tester.with("|sea", "|storm", "|s"), "s*", 64);
        weighs(Tester.with("|sea storm", "|storm sea", "|x y"), "\"sea storm\"", 80);
        weighs(Tester.with("|sea storm", "|storm sea", "|x y"), "\"sea storm\"~1", 69);
        weighs(Tester.with("|sea storm", "|storm sea", "|x y"), "\"the sea\"", 69);
        // In the body one has it, in the title two, and each field is of one run.
        weighs(Tester.with("sea|sea", "sea|x", "x|x"), "sea", 2 * 69 + 80);
        // Of the marked ones, too.
        BeaconIndex index = Tester.with("|sea", "|sea", "|x");
        index.takeOut(1);
        weighs(index, "sea", 69);
    }

    // ---- the weight of a unit

    @Sentence(of = "Terms", says = "All numbers are whole; / is cut towards 0.")
    void quotientsAreCut() {
        // 64 * 22 * 3 / (30 + 3 + 9) = 100 and 24 / 42.
        weighs(Tester.with("|sea sea sea"), "sea", 100);
        // 9 * 1 / 2 = 4: 72 * 22 / 17 = 93 and 3 / 17.
        weighs(Tester.with("|sea", "|x x x"), "sea", 93);
        // 16 * 4 / 3 = 21 in the logarithm.
        weighs(Tester.with("|sea", "|sea", "|x"), "sea", 69);
    }

    @Sentence(of = "Section 4", says = "rarity * 22 * t / (10 * t + 3 + 9 * the length of the field / its mean length)")
    void manyFits() {
        // 64 * 22 * 200 / (2000 + 3 + 9) = 139.
        weighs(Tester.with("q ".repeat(200)), "q", 139);
        weighs(Tester.with("q ".repeat(199) + "q|"), "q", 278);
        // 9 * 200 / 100 = 18: 72 * 22 / (13 + 18) = 51.
        weighs(Tester.with("q " + "x ".repeat(199), ""), "q", 51);
        // 9 * 1 / 100 = 0: 72 * 22 / 13 = 121.
        weighs(Tester.with("q", "x ".repeat(200)), "q", 121);
        // No fit: 0.
        weighs(Tester.with("q"), "z", 0);
    }

    @Sentence(of = "Section 4", says = "in the title that is doubled.")
    void titlesAreDoubled() {
        weighs(Tester.with("sea|"), "sea", 128);
        // 100 and 24 / 42 is cut ahead of doubling.
        weighs(Tester.with("sea sea sea|"), "sea", 200);
        weighs(Tester.with("sea sea sea|"), "title:sea", 200);
        weighs(Tester.with("sea sea sea|"), "title:s*", 200);
    }

    @Sentence(of = "Section 4", says = "Without a field it is both, added.")
    void bothFieldsAreAdded() {
        BeaconIndex index = Tester.with("sea|sea sea");
        weighs(index, "sea", 128 + 88);
        weighs(index, "title:sea", 128);
        weighs(index, "body:sea", 88);
        weighs(index, "title:(sea)", 128);
        weighs(Tester.with("sea|x"), "sea", 128);
        weighs(Tester.with("x|sea"), "sea", 64);
    }

    @Sentence(of = "Section 4", says = "Of ( question ) it is that of the question.")
    void innerQuestionsWeigh() {
        BeaconIndex index = Tester.with("|sea sea", "|bus");
        // Two texts with 3 runs, so the mean is 1: 72 * 22 * 2 / (20 + 3 + 18) = 77.
        weighs(index, "(sea)", 77);
        weighs(index, "((sea))", 77);
        weighs(index, "(sea sea)", 154);
        weighs(index, "(sea bus none)", 77);
        weighs(index, "(+sea +bus)", 0);
        weighs(index, "(sea -sea)", 0);
        weighs(index, "(-sea)", 0);
        weighs(index, "(bus)", 0);
    }

    // ---- the weight of a part and of a question

    @Sentence(of = "Section 4", says = "Of a part with ^ n it is that, times n; with - it is 0.")
    void partsAreMultiplied() {
        BeaconIndex index = Tester.with(ALONE);
        weighs(index, "sea", 64);
        weighs(index, "sea^0", 0);
        weighs(index, "sea^00", 0);
        weighs(index, "sea^1", 64);
        weighs(index, "sea^99", 6336);
        weighs(index, "+sea^2", 128);
        weighs(index, "-sea", 0);
        weighs(index, "-sea^9", 0);
        weighs(index, "-(sea)^9", 0);
        weighs(index, "(-sea)^9", 0);
        weighs(index, "(sea^3)^3", 576);
        weighs(index, "\"sea\"~2^3", 192);
    }

    @Sentence(of = "Section 4", says = "The weight of a question for a text that it finds is that of all its parts, with + or without a sign, that are in it, added.")
    void partsAreAdded() {
        BeaconIndex index = Tester.with(ALONE);
        questionWeighs(index, "sea", 64);
        questionWeighs(index, "+sea", 64);
        questionWeighs(index, "+sea sea^2", 192);
        questionWeighs(index, "+sea none -other", 64);
        questionWeighs(index, "sea (sea)", 128);
        questionWeighs(index, "+sea^0", 0);
        questionWeighs(index, "sea^0 sea", 64);
        questionWeighs(index, "sea".concat(" sea".repeat(39)), 2560);
        questionWeighs(index, "sea -(-sea)^9", 64);
    }

    @Sentence(of = "Section 4", says = "(Of a unit that is not in a text it is 0.)")
    void unitsThatAreNotInATextWeighNothing() {
        BeaconIndex index = Tester.with(ALONE, "|bus");
        weighs(index, "bus^99", 0);
        weighs(index, "title:sea^99", 0);
        weighs(index, "\"sea bus\"^99", 0);
        weighs(index, "(bus sea -sea)^99", 0);
        questionWeighs(index, "+sea bus^99", 72);
        questionWeighs(index, "+sea (bus sea -sea)^99", 72);
    }

    @Sentence(of = "Section 4", says = "A weight of a unit, a part or a question that would be more than 1000000 is 1000000.")
    void partsAreCapped() {
        BeaconIndex index = Tester.with(ALONE);
        weighs(index, "((sea^72)^31)^7", 999936);
        weighs(index, "((sea^25)^25)^25", 1000000);
        weighs(index, "((sea^25)^25)^26", 1000000);
        weighs(index, "((sea^99)^99)^99", 1000000);
        weighs(index, "(((sea^99)^99)^99)^99", 1000000);
        weighs(index, "(((sea^99)^99)^99)^0", 0);
    }

    @Sentence(of = "Section 4", says = "A weight of a unit, a part or a question that would be more than 1000000 is 1000000.")
    void questionsAreCapped() {
        BeaconIndex index = Tester.with(ALONE);
        questionWeighs(index, "((sea^72)^31)^7", 999936);
        questionWeighs(index, "((sea^72)^31)^7 sea", 1000000);
        questionWeighs(index, "((sea^72)^31)^7 sea sea", 1000000);
        questionWeighs(index, "((sea^99)^99)^99 ((sea^99)^99)^99 ((sea^99)^99)^99", 1000000);
        t.due("the mean", index.meanWeight(), 1000000.0);
    }

    @Sentence(of = "Section 4", says = "A weight of a unit, a part or a question that would be more than 1000000 is 1000000.")
    void innerQuestionsAreCapped() {
        BeaconIndex index = Tester.with(ALONE);
        weighs(index, "(((sea^72)^31)^7)", 999936);
        weighs(index, "(((sea^72)^31)^7 sea)", 1000000);
        weighs(index, "(((sea^72)^31)^7 sea sea)", 1000000);
        weighs(index, "(((sea^99)^99)^99 ((sea^99)^99)^99)^1", 1000000);
        weighs(index, "(((sea^99)^99)^99 ((sea^99)^99)^99)^99", 1000000);
    }

    // ---- the order

    private static BeaconIndex ranked() {
        BeaconIndex index = new BeaconIndex();
        Tester.add(index, 99, 0, 999, "|sea x");
        Tester.add(index, 50, 0, 0, "|sea x");
        Tester.add(index, 10, 0, 0, "|sea sea");
        Tester.add(index, 0, 0, 0, "|sea x");
        Tester.add(index, 98, 0, 999, "|sea x");
        Tester.add(index, 51, 0, 1, "|sea x");
        index.commit();
        return index;
    }

    @Sentence(of = "Section 4", says = "In order: the greater weight is ahead; of the same weight the greater rank, of the same rank the smaller key.")
    void theOrder() {
        BeaconIndex index = ranked();
        Tester.ask(index, "sea");
        t.due("keys", Tester.keys(index), "10 98 99 51 0 50 ");
        Tester.ask(index, "sea^0");
        t.due("keys without weights", Tester.keys(index), "98 99 51 0 10 50 ");
    }

    @Sentence(of = "Section 4", says = "of the same weight the greater rank")
    void cappedWeightsAreTheSame() {
        BeaconIndex index = ranked();
        Tester.ask(index, "((sea^99)^99)^99");
        t.due("the greatest", index.weightFound(0), 1000000);
        t.due("the least", index.weightFound(5), 1000000);
        t.due("keys", Tester.keys(index), "98 99 51 0 10 50 ");
    }
}
