import java.util.ArrayList;
import java.util.List;

/** All that can be seen of an object, found out by calls that take it apart: what is alike looks alike. */
final class Sight {
    /** The key under which the tape becomes a text, so that all of it can be seen. */
    private static final int TAPE_KEY = 59;
    private static final String[] QUESTIONS = {
        "s* t* b* x q* w*", "s*^0 t*^0 b*^0 x^0 q*^0 w*^0", "title:s* body:\"tape taper\" \"sea bus\"~9"};

    private Sight() {
    }

    static List<Object> of(BeaconIndex index) {
        List<Object> seen = new ArrayList<>();
        seen.add(Tester.tapeBytes(index));
        seen.add(index.digest());
        seen.add(answer(index::meanWeight));
        for (int key = 0; key < 100; key++) {
            seen.add(index.segmentOf(key));
            seen.add(index.shelfOf(key));
        }
        seen.add(answer(() -> index.add(TAPE_KEY, 6, 500)));
        seen.add(index.commit());
        seen.add(index.digest());
        for (String question : QUESTIONS) {
            Tester.ask(index, question);
            seen.add(index.digest());
        }
        seen.add(index.nearest());
        seen.add(index.mergeAll());
        seen.add(index.digest());
        return seen;
    }

    private interface Call {
        Object answer();
    }

    private static Object answer(Call call) {
        try {
            return call.answer();
        } catch (RuntimeException e) {
            return e.getClass().getSimpleName();
        }
    }
}
