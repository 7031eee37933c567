import java.util.ArrayList;
import java.util.List;
import java.util.Random;

/**
 * The error of a question, by its very definition: the first token with which the tokens so far are not the
 * beginning of a question. Whether tokens are one is tried out, by all the ways in which they could go on.
 */
public final class QuestionErrorTest {
    private static final String[] TOKENS = {
        "a", "title", "BODY", "1", "07", "100", "+", "-", "\"", "\"", "*", "~", "^", ":", "(", "(", ")", ")", "#",
        "abcdefghijklmnopqrstu"};
    private static final String[] ENDINGS = {"", " a", " a\"", " \"", " 1"};

    private final Tester tester = new Tester();
    private final BeaconIndex index = new BeaconIndex();

    public static void main(String[] args) {
        QuestionErrorTest test = new QuestionErrorTest();
        Random random = new Random(7);
        for (int n = 0; n < 15000; n++) {
            List<String> tokens = new ArrayList<>();
            for (int k = random.nextInt(11); k >= 0; k--) {
                tokens.add(TOKENS[random.nextInt(TOKENS.length)]);
            }
            test.check(tokens, random);
        }
        test.tester.end();
    }

    private void check(List<String> tokens, Random random) {
        StringBuilder text = new StringBuilder();
        int error = -1;
        boolean wasRun = false;
        for (String token : tokens) {
            boolean isRun = Character.isLetterOrDigit(token.charAt(0));
            text.append(isRun && wasRun ? " " : " ".repeat(Math.max(0, random.nextInt(4) - 1)));
            wasRun = isRun;
            int start = text.length();
            text.append(token);
            if (error < 0 && !isBeginning(text.toString())) {
                error = start;
            }
        }
        text.append(" ".repeat(random.nextInt(2)));
        int got = Tester.ask(index, text.toString());
        int want = error >= 0 ? error : got < 0 ? -1 : text.length();
        tester.due("ask of " + text, got, want);
    }

    private boolean isBeginning(String text) {
        for (String ending : ENDINGS) {
            for (int open = 0; open <= 4; open++) {
                if (Tester.ask(index, text + ending + ")".repeat(open)) < 0) {
                    return true;
                }
            }
        }
        return false;
    }
}
