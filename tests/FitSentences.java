/** What fits where, and what a question finds: the end of section 3, and promise 36. */
final class FitSentences {
    /** How much a unit weighs in the body of the only text there is, if it fits so many times there. */
    private static final int[] ALONE = {0, 64, 88, 100, 108, 113};
    private final Tester t;

    FitSentences(Tester tester) {
        t = tester;
    }

    private void finds(BeaconIndex index, String question, String keys) {
        t.due("error of " + question, Tester.ask(index, question), -1);
        t.due("keys of " + question, Tester.keys(index), keys);
    }

    /** In an index of this body alone. */
    private void fits(String body, String question, int times, int first) {
        BeaconIndex index = Tester.with("|" + body);
        t.due("error of " + question, Tester.ask(index, question), -1);
        t.due("weight of " + question + " in " + body, index.partWeight(0, 0), ALONE[times]);
        t.due("first fit of " + question + " in " + body, index.firstFit(0, 1), first);
        t.due("found by " + question + " in " + body, index.found(), times > 0 ? 1 : 0);
    }

    // ---- runs

    @Sentence(of = "Section 3", says = "a run fits at each place where its word stands")
    void runsFit() {
        fits("sea", "sea", 1, 0);
        fits("sea x sea", "SEAS", 2, 0);
        fits("x y sea", "sea", 1, 2);
        fits("x", "sea", 0, -1);
        fits("", "sea", 0, -1);
        fits("seat", "sea", 0, -1);
        fits("se", "sea", 0, -1);
        fits("sea ".repeat(5), "sea", 5, 0);
        fits("bcdfghjklmnpq", "bcdfghjklmnpr", 1, 0);
        fits("x ".repeat(199) + "y", "y", 1, 199);
    }

    @Sentence(of = "Section 3", says = "a run that is a small word fits nowhere.")
    void smallRunsFitNowhere() {
        for (String small : new String[] {"the", "a", "an", "of", "and", "or", "to", "in", "THE"}) {
            fits("x " + small, small, 0, -1);
        }
        fits("thes", "the", 0, -1);
        fits("thes", "thes", 1, 0);
        fits("anding", "and", 0, -1);
        finds(Tester.with("x the", "x"), "x -the", "1 0 ");
        finds(Tester.with("x the", "x"), "x +the", "");
    }

    @Sentence(of = "Section 3", says = "A run with * fits where a word begins with the whole run, folded and not shortened")
    void beginningsFit() {
        fits("storm", "s*", 1, 0);
        fits("storm", "STORM*", 1, 0);
        fits("storms", "storms*", 0, -1);
        fits("stormss", "storms*", 1, 0);
        fits("flies", "flies*", 0, -1);
        fits("flies", "fly*", 1, 0);
        fits("storm", "storma*", 0, -1);
        fits("storm", "torm*", 0, -1);
        fits("storm x stork sea", "stor*", 2, 0);
        fits("x s", "s*", 1, 1);
        fits("0s9", "0s*", 1, 0);
    }

    @Sentence(of = "Section 3", says = "begins with the whole run")
    void longBeginnings() {
        fits("bcdfghjklmnp", "bcdfghjklmn*", 1, 0);
        fits("bcdfghjklmnp", "bcdfghjklmnp*", 1, 0);
        fits("bcdfghjklmnpq", "bcdfghjklmnp*", 1, 0);
        fits("bcdfghjklmnpq", "bcdfghjklmnpq*", 0, -1);
        fits("bcdfghjklmnpqrstvwxz", "bcdfghjklmnpqrstvwxz*", 0, -1);
        fits("bcdfghjklmn", "bcdfghjklmnp*", 0, -1);
    }

    @Sentence(of = "Section 3", says = "(also if the run is a small word; small words of a text it does not fit)")
    void beginningsOfSmallWords() {
        fits("the", "the*", 0, -1);
        fits("the", "t*", 0, -1);
        fits("thes", "the*", 1, 0);
        fits("the theme", "the*", 1, 1);
        fits("a an and ab", "a*", 1, 3);
        fits("ink in", "in*", 1, 0);
        fits("to or of", "o*", 0, -1);
    }

    // ---- phrases

    @Sentence(of = "Section 3", says = "A phrase with one run that is not small fits where that does.")
    void phrasesOfOneRun() {
        fits("x sea sea", "\"sea\"", 2, 1);
        fits("sea", "\"the sea\"", 1, 0);
        fits("sea", "\"sea the\"", 1, 0);
        fits("sea", "\"the of sea\"", 1, 0);
        fits("x sea", "\"of the sea in\"", 1, 1);
        fits("sea", "\"the sea\"~1", 1, 0);
        fits("sea x x sea", "\"sea of\"~99", 2, 0);
    }

    @Sentence(of = "Section 3", says = "(With none it fits nowhere.)")
    void phrasesOfSmallRuns() {
        fits("the of thes", "\"the\"", 0, -1);
        fits("the of", "\"the of\"", 0, -1);
        fits("the of", "\"the of\"~9", 0, -1);
        finds(Tester.with("the of"), "\"the of\"", "");
    }

    @Sentence(of = "Section 3", says = "Otherwise a phrase fits at a place p of the field if for each run that is not small, with its number i in the phrase (from 0 on), its word stands at p + i.")
    void phrasesFit() {
        fits("sea storm", "\"sea storm\"", 1, 0);
        fits("storm sea", "\"sea storm\"", 0, -1);
        fits("x sea storm", "\"sea storm\"", 1, 1);
        fits("sea x storm", "\"sea storm\"", 0, -1);
        fits("sea", "\"sea storm\"", 0, -1);
        fits("x storm", "\"sea storm\"", 0, -1);
        fits("sea sea sea", "\"sea sea\"", 2, 0);
        fits("sea sea", "\"sea sea sea\"", 0, -1);
        fits("sea storm sea storm", "\"sea storm\"", 2, 0);
        fits("SEAS storms", "\"sea storm\"", 1, 0);
        fits("b c d e f", "\"b c d e f\"", 1, 0);
        fits("b c d e", "\"b c d e f\"", 0, -1);
    }

    @Sentence(of = "Section 3", says = "at a place p of the field")
    void smallRunsOfAPhraseHoldTheirPlaces() {
        fits("sea of storm", "\"sea the storm\"", 1, 0);
        fits("sea x storm", "\"sea the storm\"", 1, 0);
        fits("sea storm", "\"sea the storm\"", 0, -1);
        fits("the sea storm", "\"the sea storm\"", 1, 0);
        fits("x sea storm", "\"the sea storm\"", 1, 0);
        fits("sea storm", "\"the sea storm\"", 0, -1);
        fits("x sea storm", "\"of the sea storm\"", 0, -1);
        fits("sea storm", "\"sea storm the\"", 1, 0);
        fits("x y sea storm", "\"the of sea storm in\"", 1, 0);
        BeaconIndex split = Tester.with("sea|storm", "storm|sea");
        finds(split, "\"sea storm\"", "");
    }

    @Sentence(of = "Section 3", says = "~ 0 is as without")
    void looseByNothing() {
        fits("sea storm", "\"sea storm\"~0", 1, 0);
        fits("storm sea", "\"sea storm\"~0", 0, -1);
        fits("sea storm sea", "\"sea storm\"~00", 1, 0);
        fits("sea x storm", "\"sea the storm\"~0", 1, 0);
        fits("storm x sea", "\"sea the storm\"~0", 0, -1);
        fits("sea", "\"the sea\"~0", 1, 0);
    }

    @Sentence(of = "Section 3", says = "With ~ n (n 1 to 99")
    void looseByOneToNinetyNine() {
        fits("sea storm", "\"sea storm\"~1", 1, 0);
        fits("storm sea", "\"sea storm\"~1", 1, 1);
        fits("sea " + "x ".repeat(99) + "storm", "\"sea storm\"~99", 1, 0);
        fits("sea " + "x ".repeat(99) + "storm", "\"sea storm\"~98", 0, -1);
        fits("sea " + "x ".repeat(100) + "storm", "\"sea storm\"~99", 0, -1);
        fits("storm " + "x ".repeat(99) + "sea", "\"sea storm\"~99", 1, 100);
    }

    @Sentence(of = "Section 3", says = "are at most n plus how many runs the phrase has, less 1, apart.")
    void nearWordsAreNotTooFarApart() {
        fits("sea x storm", "\"sea storm\"~1", 1, 0);
        fits("sea x x storm", "\"sea storm\"~1", 0, -1);
        fits("sea x x storm", "\"sea storm\"~2", 1, 0);
        fits("storm x sea", "\"sea storm\"~1", 1, 2);
        fits("storm x x sea", "\"sea storm\"~1", 0, -1);
        fits("sea x x storm", "\"sea the storm\"~1", 1, 0);
        fits("sea x x x storm", "\"sea the storm\"~1", 0, -1);
        fits("sea x storm x", "\"the sea storm\"~1", 1, 0);
        fits("sea x x x storm", "\"the sea of storm\"~1", 1, 0);
        fits("b c x d", "\"b c d\"~1", 1, 0);
        fits("b x c x d", "\"b c d\"~1", 0, -1);
        fits("b x c x d", "\"b c d\"~2", 1, 0);
        fits("x b x b c", "\"b c\"~1", 1, 3);
        fits("b x x b c", "\"b c\"~1", 1, 3);
        fits("b c x x b c x x b", "\"b c\"~1", 2, 0);
    }

    @Sentence(of = "Section 3", says = "the least and the greatest of which (p counted)")
    void theFirstRunMayStandAnywhereAmongThem() {
        fits("c b d", "\"b c d\"~1", 1, 1);
        fits("d c b", "\"b c d\"~1", 1, 2);
        fits("c x b x d", "\"b c d\"~1", 0, -1);
        fits("c x b x d", "\"b c d\"~2", 1, 2);
        fits("c x b d", "\"b c d\"~1", 1, 2);
        fits("b x x c d x b", "\"b c d\"~1", 1, 6);
        fits("b x x c d x x b", "\"b c d\"~1", 0, -1);
        fits("b c d b x x b", "\"b c d\"~1", 2, 0);
        fits("b c x x c d b", "\"b c d\"~1", 1, 6);
    }

    @Sentence(of = "Section 3", says = "one each, all different from one another and from p")
    void placesAreDifferent() {
        fits("sea", "\"sea sea\"~9", 0, -1);
        fits("sea sea", "\"sea sea\"~9", 2, 0);
        fits("sea sea", "\"sea sea sea\"~9", 0, -1);
        fits("sea x sea x sea", "\"sea sea sea\"~2", 3, 0);
        fits("sea x sea x sea", "\"sea sea sea\"~1", 0, -1);
        fits("b c", "\"b c c\"~9", 0, -1);
        fits("c b c", "\"b c c\"~1", 1, 1);
        fits("b c b", "\"b c c\"~9", 0, -1);
        fits("sea seas", "\"sea seas\"~1", 2, 0);
    }

    @Sentence(of = "Section 3", says = "it fits at each place p of the first run that is not small")
    void nearWordsFitAtTheFirstRun() {
        fits("storm x sea", "\"the sea storm\"~1", 1, 2);
        fits("sea storm sea", "\"sea storm\"~1", 2, 0);
        fits("storm sea storm", "\"sea storm\"~1", 1, 1);
        fits("sea storm", "\"storm sea\"~1", 1, 1);
        fits("sea", "\"sea storm\"~9", 0, -1);
        fits("storm", "\"sea storm\"~9", 0, -1);
        fits("", "\"sea storm\"~9", 0, -1);
        fits("sea x x x x x x storm sea", "\"sea storm\"~1", 1, 8);
        finds(Tester.with("sea|storm"), "\"sea storm\"~99", "");
    }

    // ---- units, parts and questions

    @Sentence(of = "Section 3", says = "A unit without a field is looked for in both. It is in a text, if it fits anywhere there.")
    void bothFieldsAreLookedAt() {
        BeaconIndex index = Tester.with("sea|", "|sea", "sea|sea", "x|y", "");
        finds(index, "sea", "2 0 1 ");
        finds(index, "title:sea", "0 2 ");
        finds(index, "body:sea", "1 2 ");
        finds(index, "x -sea", "3 ");
        finds(index, "+title:sea +body:sea", "2 ");
        finds(index, "none", "");
    }

    @Sentence(of = "Section 3", says = "( question ) is in a text, if the question finds it.")
    void innerQuestions() {
        BeaconIndex index = Tester.with("sea", "sea storm", "storm", "bus");
        finds(index, "(sea)", "0 1 ");
        finds(index, "(+sea +storm)", "1 ");
        finds(index, "(-sea)", "");
        finds(index, "bus (-sea)", "3 ");
        finds(index, "storm -(sea)", "2 ");
        finds(index, "storm -(sea -storm)", "2 1 ");
        finds(index, "storm -(-sea)", "2 1 ");
        finds(index, "+(-sea) bus", "");
        finds(index, "+((((sea)))) +storm", "1 ");
    }

    @Sentence(of = "Section 3", says = "A question finds a text (which is in a segment and not marked)")
    void onlySegmentsAreSearched() {
        BeaconIndex index = new BeaconIndex();
        finds(index, "sea", "");
        Tester.add(index, 0, "sea");
        Tester.add(index, 1, "sea");
        t.due("in the buffer", index.found(), 0);
        index.commit();
        t.due("in a segment", Tester.keys(index), "0 1 ");
        index.takeOut(0);
        t.due("marked", Tester.keys(index), "1 ");
        Tester.add(index, 0, "sea");
        t.due("buffered again", Tester.keys(index), "1 ");
        Tester.add(index, 1, "sea");
        t.due("none", Tester.keys(index), "");
        index.commit();
        t.due("in another segment", Tester.keys(index), "0 1 ");
        index.mergeAll();
        t.due("merged", Tester.keys(index), "0 1 ");
    }

    @Sentence(of = "Section 3", says = "if all parts with + are in it, none with - is, and, if there is no part with +, one of the parts without a sign at least.")
    void signsDecide() {
        BeaconIndex index = Tester.with("b", "b c", "b c d", "c d", "d", "x");
        finds(index, "+b", "0 1 2 ");
        finds(index, "+b +c", "1 2 ");
        finds(index, "+b +c +d", "2 ");
        finds(index, "+b +none", "");
        finds(index, "+b -c", "0 ");
        finds(index, "+b -b", "");
        finds(index, "-c +b", "0 ");
        finds(index, "b -c -d", "0 ");
        finds(index, "b -none", "0 1 2 ");
        finds(index, "+x none", "5 ");
        finds(index, "+x b", "5 ");
        finds(index, "none x", "5 ");
        finds(index, "none other", "");
    }

    @Sentence(of = "Section 3", says = "(So a question of parts with - alone finds none.)")
    void minusAloneFindsNone() {
        BeaconIndex index = Tester.with("b", "c");
        finds(index, "-x", "");
        finds(index, "-b", "");
        finds(index, "-b -c", "");
        finds(index, "-(-b)", "");
        finds(index, "-(b)", "");
    }

    // ---- promise 36

    private void firsts(BeaconIndex index, String question, int title, int body) {
        t.due("error of " + question, Tester.ask(index, question), -1);
        t.due("first fit of " + question + " in the title", index.firstFit(0, 0), title);
        t.due("first fit of " + question + " in the body", index.firstFit(0, 1), body);
    }

    @Sentence(of = "Promise 36", says = "Returns the first place in this field of the text with this key at which a unit fits")
    void theFirstOfAllPlaces() {
        BeaconIndex index = Tester.with("x sea storm|the bus sea", "bus|bus");
        firsts(index, "storm sea", 1, 2);
        firsts(index, "storm bus", 2, 1);
        firsts(index, "none x", 0, -1);
        firsts(index, "\"sea storm\"", 1, -1);
        firsts(index, "sea^0", 1, 2);
        firsts(index, "+none sea", 1, 2);
        firsts(index, "the", -1, -1);
    }

    @Sentence(of = "Promise 36", says = "that is in no part with - (of the question, or of one in it)")
    void unitsWithMinusDoNotCount() {
        BeaconIndex index = Tester.with("x sea storm|the bus sea");
        firsts(index, "-x sea", 1, 2);
        firsts(index, "-sea", -1, -1);
        firsts(index, "-(x) storm", 2, -1);
        firsts(index, "-(+x) -((sea)) storm", 2, -1);
        firsts(index, "(-x storm)", 2, -1);
        firsts(index, "(-(x) bus)", -1, 1);
        firsts(index, "-(-x) bus", -1, 1);
        firsts(index, "-(-(-x)) bus", -1, 1);
        firsts(index, "-x +x", 0, -1);
    }

    @Sentence(of = "Promise 36", says = "and is looked for in this field (a unit of a ( question ) also if that does not find the text)")
    void unitsOfOtherFieldsDoNotCount() {
        BeaconIndex index = Tester.with("x sea storm|the bus sea");
        firsts(index, "title:sea", 1, -1);
        firsts(index, "body:sea", -1, 2);
        firsts(index, "title:(sea bus)", 1, -1);
        firsts(index, "body:(sea title:x)", 0, 2);
        firsts(index, "(+sea +none)", 1, 2);
        firsts(index, "(sea -bus)", 1, 2);
        firsts(index, "((+none x) -bus)", 0, -1);
    }

    @Sentence(of = "Promise 36", says = "-1 without one, or if it is in no segment, or marked.")
    void firstFitOfNothing() {
        BeaconIndex index = Tester.with("sea|sea", "|");
        Tester.ask(index, "sea");
        Tester.add(index, 9, "sea|sea");
        t.due("fits", index.firstFit(0, 0) + index.firstFit(0, 1), 0);
        t.due("in an empty text", index.firstFit(1, 0) + index.firstFit(1, 1), -2);
        t.due("in the buffer", index.firstFit(9, 0), -1);
        t.due("no such text", index.firstFit(99, 1), -1);
        index.takeOut(0);
        t.due("marked", index.firstFit(0, 0), -1);
        Tester.add(index, 0, "x sea");
        t.due("marked, and buffered", index.firstFit(0, 1), -1);
        index.commit();
        t.due("marked, and in another segment", index.firstFit(0, 1), 1);
    }
}
