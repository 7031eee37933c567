/** How a question is read: section 3 as far as its errors, and the promises 27 and 28. */
final class QuestionSentences {
    private static final String TWENTY = "bcdfghjklmnpqrstvwxz";
    private static final String FULL_TAPE = "the end of the tape, at its length, where a question cannot end";
    private final Tester t;

    QuestionSentences(Tester tester) {
        t = tester;
    }

    private void errs(String question, int position) {
        t.due("error of " + question, Tester.ask(new BeaconIndex(), question), position);
    }

    private void isOne(String question) {
        errs(question, -1);
    }

    private void hasParts(String question, int parts) {
        BeaconIndex index = new BeaconIndex();
        t.due("error of " + question, Tester.ask(index, question), -1);
        t.due("parts of " + question, index.parts(), parts);
    }

    private void finds(BeaconIndex index, String question, String keys) {
        t.due("error of " + question, Tester.ask(index, question), -1);
        t.due("keys of " + question, Tester.keys(index), keys);
    }

    // ---- blanks and tokens

    @Sentence(of = "Section 3", says = "Blanks (32) can stand ahead of, between and behind tokens, and have to stand between two runs.")
    void blanksStandAnywhereBetweenTokens() {
        isOne("  b");
        isOne("b  ");
        isOne(" + title : b * ^ 2 ");
        isOne(" \" b c \" ~ 2 ^ 3 ");
        isOne(" - ( b c ) ^ 4 ");
        isOne("+title:b*^2-\"b c\"~2^3(b)^4");
        hasParts("bc", 1);
        hasParts("b c", 2);
        hasParts("b" + " ".repeat(398) + "c", 2);
        errs("b^1 2", -1);
        hasParts("b^1 2", 2);
        hasParts("b^12", 1);
        BeaconIndex index = Tester.with("bc", "b c");
        finds(index, "\"b c\"", "1 ");
        finds(index, "\"bc\"", "0 ");
    }

    @Sentence(of = "Section 3", says = "Tokens: runs (as in 1, but of at most 20 bytes; a longer one is no token), and the signs + - \" * ~ ^ : ( ).")
    void eachByteIsATokenOrNot() {
        String run = "0123456789ABCDEFGHIJKLMNOPQRSTUVWXYZabcdefghijklmnopqrstuvwxyz";
        for (int b = 0; b < 256; b++) {
            boolean goesOn = run.indexOf(b) >= 0 || b == ' ' || b == '*';
            boolean wantsMore = "+-(\"^".indexOf(b) >= 0;
            errs("b" + (char) b, goesOn ? -1 : wantsMore ? 2 : 1);
        }
    }

    @Sentence(of = "Section 3", says = "of at most 20 bytes; a longer one is no token")
    void runsOfAQuestionHaveTwentyBytes() {
        isOne(TWENTY);
        errs(TWENTY + "q", 0);
        errs("b " + TWENTY + "q", 2);
        isOne("\"" + TWENTY + "\"");
        errs("\"" + TWENTY + "q\"", 1);
        errs("title:" + TWENTY + "q", 6);
        errs("b" + "q".repeat(399), 0);
        isOne(TWENTY + " " + TWENTY);
        BeaconIndex index = Tester.with(TWENTY, TWENTY + "q", "bcdfghjklmnp");
        finds(index, TWENTY, "0 1 2 ");
    }

    // ---- the grammar

    @Sentence(of = "Section 3", says = "question = part { part }")
    void aQuestionHasAPartAtLeast() {
        hasParts("b", 1);
        hasParts("b c d", 3);
        hasParts("b ".repeat(40), 40);
        errs("", 0);
        errs("()", 1);
        errs("( )", 2);
    }

    @Sentence(of = "Section 3", says = "part = [ \"+\" | \"-\" ] unit [ \"^\" number ]")
    void aPartHasOneSignAndOneNumber() {
        isOne("+b");
        isOne("-b");
        isOne("+b^2");
        errs("++b", 1);
        errs("+-b", 1);
        errs("--b", 1);
        errs("-+b", 1);
        errs("+", 1);
        errs("-", 1);
        errs("b+", 2);
        errs("^2", 0);
        errs("+^2", 1);
        errs("b^2^2", 3);
        errs("b^2*", 3);
        errs("\"b\"^2~2", 5);
        hasParts("b+c-d^2 e", 4);
    }

    @Sentence(of = "Section 3", says = "unit = [ field \":\" ] core")
    void aUnitHasOneFieldAtMost() {
        isOne("title:b");
        isOne("title:\"b\"");
        isOne("title:(b)");
        errs("title:", 6);
        errs("title:^2", 6);
        errs("title:+b", 6);
        errs("title::b", 6);
        errs("title:title:b", 11);
        errs("body:title:b", 10);
        errs(":b", 0);
        errs("+:b", 1);
        isOne("title:(body:b)");
        isOne("title:(title:(body:b))");
    }

    @Sentence(of = "Section 3", says = "core = run [ \"*\" ]")
    void aRunHasOneStar() {
        isOne("b*");
        isOne("b *");
        errs("*", 0);
        errs("b**", 2);
        errs("\"b\"*", 3);
        errs("(b)*", 3);
        errs("+*", 1);
        errs("b*:", 2);
    }

    @Sentence(of = "Section 3", says = "\"\"\" run { run } \"\"\" [ \"~\" number ]")
    void aPhraseHasARunAtLeast() {
        isOne("\"b\"");
        isOne("\"b c d\"");
        isOne("\"" + "b ".repeat(38) + "\"");
        errs("\"\"", 1);
        errs("\"  \"", 3);
        errs("\"", 1);
        errs("\"b", 2);
        errs("\"b+\"", 2);
        errs("\"b*\"", 2);
        errs("\"(b)\"", 1);
        errs("\"b:c\"", 2);
        errs("\"title:c\"", 6);
        errs("\":c\"", 1);
        errs("\"b~2\"", 2);
        isOne("\"b\"~2");
        errs("\"b\"~", 4);
        errs("\"b\"~2~2", 5);
        errs("b~2", 1);
        errs("b*~2", 2);
        errs("(b)~2", 3);
        hasParts("\"b\"\"c\"", 2);
    }

    @Sentence(of = "Section 3", says = "\"(\" question \")\"")
    void bracketsOpenAndClose() {
        isOne("(b)");
        isOne("(b c)");
        errs("(b", 2);
        errs("b)", 1);
        errs("(b))", 3);
        errs(")", 0);
        errs("(+)", 2);
        errs("(b^)", 3);
        errs("((b)", 4);
        hasParts("(b)(c)", 2);
        hasParts("((b)(c))", 1);
    }

    @Sentence(of = "Section 3", says = "number is a run of 1 or 2 digits")
    void numbersHaveOneOrTwoDigits() {
        for (String number : new String[] {"0", "9", "00", "09", "10", "99"}) {
            isOne("b^" + number);
            isOne("\"b\"~" + number);
        }
        for (String wrong : new String[] {"000", "100", "b", "1b", "b1", "01b", "+", "-1", "(1)", "\"1\"", "*", "1".repeat(21)}) {
            errs("b^" + wrong, 2);
            errs("\"b\"~" + wrong, 4);
        }
        errs("b^", 2);
        errs("\"b\"~ ", 5);
        hasParts("12 ^ 12", 1);
    }

    @Sentence(of = "Section 3", says = "field is the run title or body (folded), with a : as the next token")
    void fieldsAreFolded() {
        BeaconIndex index = Tester.with("sea|bus", "bus|sea", "title|body");
        finds(index, "title:sea", "0 ");
        finds(index, "TITLE : sea", "0 ");
        finds(index, "tItLe:sea", "0 ");
        finds(index, "body:sea", "1 ");
        finds(index, "BoDy :sea", "1 ");
        finds(index, "+title", "2 ");
        finds(index, "title sea", "0 2 1 ");
        finds(index, "title:title", "2 ");
        finds(index, "body:title", "");
        finds(index, "\"title\"", "2 ");
        finds(index, "title*", "2 ");
        isOne("title");
        isOne("title body");
        errs("\"title\":b", 7);
        errs("titles:b", 6);
        errs("titl:b", 4);
        errs("bodys:b", 5);
    }

    @Sentence(of = "Section 3", says = "a run with a : as the next token that is neither is no core either, so that this : is an error.")
    void otherRunsAreNoFields() {
        errs("b:c", 1);
        errs("b :c", 2);
        errs("+b:", 2);
        errs("the:c", 3);
        errs("(b:c)", 2);
        errs("b c:d", 3);
        errs("title:b:c", 7);
        errs("12:c", 2);
        errs("title b:c", 7);
        errs("title*:c", 6);
        errs("title^2:c", 7);
    }

    @Sentence(of = "Section 3", says = "A field in front of a ( counts for all units in it that have no field of their own, or of a ( further in.")
    void fieldsOfBrackets() {
        BeaconIndex index = Tester.with("sea|storm", "storm|sea");
        finds(index, "title:(sea)", "0 ");
        finds(index, "body:(sea)", "1 ");
        finds(index, "title:(\"sea\")", "0 ");
        finds(index, "title:(s*)", "0 1 ");
        finds(index, "title:(+sea +storm)", "");
        finds(index, "title:(+sea +body:storm)", "0 ");
        finds(index, "title:((sea))", "0 ");
        finds(index, "title:(body:(sea))", "1 ");
        finds(index, "title:(body:((sea)))", "1 ");
        finds(index, "title:(body:(title:sea))", "0 ");
        finds(index, "title:(+body:(sea) +storm)", "1 ");
        finds(index, "+title:(sea) +storm", "0 ");
        finds(index, "+(title:sea) +body:storm", "0 ");
        finds(index, "(title:sea storm)", "0 1 ");
    }

    // ---- errors

    @Sentence(of = "Section 3", says = "the position of the first token with which the tokens so far are not the beginning of a question")
    void theFirstErrorCounts() {
        errs("b ) #", 2);
        errs("b # )", 2);
        errs("  )b", 2);
        errs("b (c *", 6);
        errs("b^c d^e", 2);
        errs(")" + " b".repeat(60), 0);
        errs(TWENTY + "q )", 0);
        errs(") " + TWENTY + "q", 0);
        errs(" ".repeat(399) + ")", 399);
    }

    @Sentence(of = "Section 3", says = "a byte with which none begins")
    void bytesWithoutAToken() {
        for (int b : new int[] {0, 9, 10, 31, 33, '#', '|', ',', '.', '_', 127, 128, 160, 225, 255}) {
            String sign = "" + (char) b;
            errs(sign, 0);
            errs(" " + sign, 1);
            errs("b" + sign, 1);
            errs("\"b " + sign, 3);
            errs("b^" + sign, 2);
            errs("title:" + sign, 6);
            errs("(b" + sign + ")", 2);
        }
    }

    @Sentence(of = "Section 3", says = "a run of more than 20 bytes")
    void longRunsWhereverTheyStand() {
        String longer = TWENTY + "q";
        errs("+" + longer, 1);
        errs("\"b " + longer, 3);
        errs("b^" + "1".repeat(21), 2);
        errs("\"b\"~" + "1".repeat(21), 4);
        errs("(" + longer + ")", 1);
        errs("title:" + longer, 6);
        errs(longer + ":b", 0);
    }

    @Sentence(of = "Section 3", says = "the ( behind which 5 would be open")
    void fourBracketsAreOpenAtMost() {
        isOne("((((b))))");
        errs("(((((b)))))", 4);
        errs("((((b(c)))))", 5);
        errs("(b(c(d(e(f", 8);
        errs("((((b)))(", 9);
        isOne("((((b)))((c)))");
        isOne("((((b))))((((c))))");
        isOne("(b)(b)(b)(b)(b)(b)");
        isOne("((((b)))(((c))))");
        errs("((((b)))((((c)))))", 11);
        errs("((((b))))(((((c)))))", 13);
        errs("( ( ( ( (", 8);
    }

    @Sentence(of = "Section 3", says = "the token that would be the 41st")
    void fortyTokensAtMost() {
        isOne("b ".repeat(40));
        errs("b ".repeat(41), 80);
        errs("b ".repeat(45), 80);
        isOne("b*".repeat(20));
        errs("b*".repeat(20) + "b", 40);
        isOne("b^1 ".repeat(13) + "b");
        errs("b^1 ".repeat(13) + "b*", 53);
        isOne("+b".repeat(20));
        errs("+b".repeat(20) + "^1", 40);
        errs("+b".repeat(20) + "#", 40);
        errs("+b".repeat(20) + TWENTY + "q", 39);
        errs("+b".repeat(20) + " " + TWENTY + "q", 41);
        errs("+b".repeat(19) + " title:c", 45);
        isOne("\"" + "b ".repeat(38) + "\"");
        errs("\"" + "b ".repeat(39) + "\"", 79);
        isOne("(" + "b ".repeat(38) + ")");
        errs("(" + "b ".repeat(39) + ")", 79);
        errs("b ".repeat(39) + "title:b", 83);
    }

    @Sentence(of = "Section 3", says = FULL_TAPE)
    void theEndIsTheError() {
        errs("", 0);
        errs(" ", 1);
        errs(" ".repeat(400), 400);
        errs("+", 1);
        errs("b -", 3);
        errs("b - ", 4);
        errs("b^", 2);
        errs("b^  ", 4);
        errs("(b", 2);
        errs("(b ", 3);
        errs("\"b", 2);
        errs("\"", 1);
        errs("\"b\"~", 4);
        errs("title:", 6);
        errs("(" + "b".repeat(20) + " ".repeat(379), 400);
        errs("(" + "b ".repeat(39), 79);
    }

    @Sentence(of = "Section 3", says = "it has none otherwise")
    void noErrorAtTheLastByte() {
        isOne(" ".repeat(399) + "b");
        isOne("b" + " ".repeat(399));
        isOne(" ".repeat(397) + "(b)");
        isOne((TWENTY + " ").repeat(19) + "b");
    }

    // ---- promises 27 and 28

    @Sentence(of = "Promise 27", says = "Reads the tape as the question from now on. If it has an error, the one before stays.")
    void theOneBeforeStays() {
        BeaconIndex index = Tester.with("sea", "bus storm");
        Tester.ask(index, "(");
        t.due("none before, none behind", Tester.thrown(index::found), Tester.ISE);
        Tester.ask(index, "sea bus storm");
        long before = index.digest();
        for (String wrong : new String[] {"", "bus )", "bus #", "(bus", "-bus \"sea", "bus ".repeat(41), "(((((bus)))))"}) {
            Tester.ask(index, wrong);
            t.due("digest behind the error of " + wrong, index.digest(), before);
            t.due("weight of a part", index.partWeight(1, 1) > 0, true);
            t.due("place of a fit", index.firstFit(1, 1), 0);
        }
        finds(index, "storm", "1 ");
        t.due("its parts", index.parts(), 1);
        t.due("its place", index.firstFit(1, 1), 1);
    }

    @Sentence(of = "Promise 27", says = "Returns the position of its error; -1 without one.")
    void askTellsThePosition() {
        errs("b", -1);
        errs("b b", -1);
        errs("#", 0);
        errs("b".repeat(20) + " ".repeat(379) + "#", 399);
    }

    @Sentence(of = "Promise 28", says = "Returns how many parts the question has (not those of a question in it).")
    void partsAreCounted() {
        hasParts("b", 1);
        hasParts("b +c -d", 3);
        hasParts("(b c d)", 1);
        hasParts("(b c) d -(b (c d) d)", 3);
        hasParts("title:(b c)^2", 1);
        hasParts("\"b c d\"~2", 1);
        hasParts("b".concat(" b".repeat(39)), 40);
        hasParts("(b)".repeat(13), 13);
    }
}
