import java.io.IOException;
import java.nio.file.Files;
import java.nio.file.Path;

/** The example of README.md: each of its lines stands here too, and answers what is said there. */
public final class ReadmeTest {
    private static final Tester TESTER = new Tester();

    public static void main(String[] args) throws IOException {
        runExample();
        compareExample(Files.readString(Path.of("README.md")), Files.readString(Path.of("tests/ReadmeTest.java")));
        TESTER.end();
    }

    private static void runExample() {
        BeaconIndex index = new BeaconIndex();
        index.feed(0x4c616d70, 0x7c6c616d, 0x70732061, 0x74207365, 0x61202020);   // "Lamp|lamps at sea   "
        int words = index.add(7, 0, 500);      // key, shelf, rank: 4 words; it lies in the buffer
        int segments = index.commit();         // 1: it is in a segment, and can be found from now on

        index.feed(0x6c616d70, 0x202d7374, 0x6f726d20, 0x20202020, 0x20202020);   // "lamp -storm         "
        int error = index.ask();               // -1: the question has no error
        int found = index.found();             // 1 text
        int best = index.keyFound(0);          // 7: its key
        int weight = index.weightFound(0);     // 192: what put it there
        int first = index.firstFit(7, 1);      // 0: the first place in its body at which the question fits

        index.feed(0x6c616d62, 0x20202020, 0x20202020, 0x20202020, 0x20202020);   // "lamb                "
        int bytes = index.takeWord();          // 4: the word is lamb
        int changes = index.nearest();         // 1: the word is lamp, the nearest one that the segments have
        int holders = index.textsWith(0);      // 1 text has it in its title

        TESTER.due("words", words, 4);
        TESTER.due("segments", segments, 1);
        TESTER.due("error", error, -1);
        TESTER.due("found", found, 1);
        TESTER.due("best", best, 7);
        TESTER.due("weight", weight, 192);
        TESTER.due("first", first, 0);
        TESTER.due("bytes", bytes, 4);
        TESTER.due("changes", changes, 1);
        TESTER.due("holders", holders, 1);
    }

    private static void compareExample(String readme, String here) {
        int from = readme.indexOf("```java\n") + 8;
        String example = readme.substring(from, readme.indexOf("```", from));
        TESTER.due("the example is there", example.isBlank(), false);
        for (String line : example.split("\n")) {
            TESTER.due("it stands here: " + line, here.contains(line.strip()), true);
        }
    }
}
