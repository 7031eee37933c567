import java.io.IOException;
import java.lang.reflect.InvocationTargetException;
import java.lang.reflect.Method;
import java.nio.file.Files;
import java.nio.file.Path;
import java.util.ArrayList;
import java.util.Arrays;
import java.util.Comparator;
import java.util.LinkedHashMap;
import java.util.List;
import java.util.Map;

/**
 * Runs the tests of single sentences, each by itself. With the path of the document it tells instead which of the
 * sentences that they name do not stand there, and which exceptions of the document no test names.
 */
public final class SentencesTest {
    private static final Tester TESTER = new Tester();
    private static final Object[] TESTS = {
        new TextSentences(TESTER), new SegmentSentences(TESTER), new WordSentences(TESTER),
        new QuestionSentences(TESTER), new FitSentences(TESTER), new WeightSentences(TESTER),
        new FindingSentences(TESTER), new RefusalSentences(TESTER)};

    public static void main(String[] args) throws IOException {
        if (args.length > 0) {
            holdAgainstDocument(Files.readString(Path.of(args[0])));
            return;
        }
        int count = 0;
        for (Object tests : TESTS) {
            for (Method method : methodsOf(tests)) {
                run(tests, method);
                count++;
            }
        }
        TESTER.begin("");
        System.out.println(count + " tests of sentences have run");
        TESTER.end();
    }

    private static List<Method> methodsOf(Object tests) {
        List<Method> methods = new ArrayList<>();
        for (Method method : tests.getClass().getDeclaredMethods()) {
            if (method.isAnnotationPresent(Sentence.class)) {
                methods.add(method);
            }
        }
        methods.sort(Comparator.comparing(Method::getName));
        return methods;
    }

    private static void run(Object tests, Method method) {
        Sentence sentence = method.getAnnotation(Sentence.class);
        TESTER.begin(method.getName() + " (" + sentence.of() + ": " + sentence.says() + "): ");
        try {
            method.invoke(tests);
        } catch (InvocationTargetException e) {
            TESTER.due("the test", "threw " + e.getCause(), "nothing thrown");
        } catch (IllegalAccessException e) {
            TESTER.due("the test", "cannot be called", "called");
        }
    }

    private static void holdAgainstDocument(String document) {
        Map<String, String> parts = partsOf(document);
        StringBuilder quoted = new StringBuilder();
        for (Object tests : TESTS) {
            for (Method method : methodsOf(tests)) {
                Sentence sentence = method.getAnnotation(Sentence.class);
                quoted.append(sentence.of()).append(": ").append(sentence.says()).append('\n');
                if (!parts.getOrDefault(sentence.of(), "").contains(sentence.says())) {
                    System.out.println(method.getName() + ": not in " + sentence.of() + ": " + sentence.says());
                }
            }
        }
        List<String> lines = Arrays.asList(quoted.toString().split("\n"));
        for (Map.Entry<String, String> part : parts.entrySet()) {
            for (String piece : part.getValue().split("(?=Throws `)")) {
                String due = part.getKey() + ": " + piece.strip();
                if (piece.startsWith("Throws `") && !lines.contains(due)) {
                    System.out.println("no test of " + due);
                }
            }
        }
        for (String part : parts.keySet()) {
            long tests = lines.stream().filter(line -> line.startsWith(part + ": ")).count();
            System.out.println(part + ": " + tests);
        }
    }

    private static Map<String, String> partsOf(String document) {
        Map<String, StringBuilder> parts = new LinkedHashMap<>();
        StringBuilder part = new StringBuilder();
        for (String line : document.split("\n")) {
            if (line.startsWith("## ") || line.startsWith("== ")) {
                String head = line.substring(3).replaceFirst("[:.].*", "").replaceFirst("^([0-9])", "Section $1");
                part = parts.computeIfAbsent(head, h -> new StringBuilder());
            }
            part.append(line).append(' ');
        }
        Map<String, String> joined = new LinkedHashMap<>();
        parts.forEach((head, text) -> joined.put(head, text.toString().replaceAll("\\s+", " ")));
        return joined;
    }
}
