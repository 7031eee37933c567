import java.util.ArrayList;
import java.util.HashMap;
import java.util.HashSet;
import java.util.List;
import java.util.Map;
import java.util.Set;
import java.util.TreeSet;

/**
 * The document once more, in the plainest words and the slowest way, on Strings and lists: what BeaconIndex
 * answers is held against what this answers. It shares no code and no cleverness with the class.
 */
final class Model {
    private static final Set<String> SMALL = Set.of("the", "a", "an", "of", "and", "or", "to", "in");

    static final class Text {
        int key;
        int shelf;
        int rank;
        boolean marked;
        /** Words by field; null for a small one. */
        List<List<String>> fields = new ArrayList<>();
    }

    static final class Unit {
        int field = -1;
        String run;
        boolean star;
        List<String> phrase;
        int near;
        Query inner;
    }

    static final class Part {
        char sign = ' ';
        Unit unit;
        int times = 1;
    }

    static final class Query {
        List<Part> parts = new ArrayList<>();
    }

    static final class Token {
        int start;
        /** "" at the end; null if none begins so. */
        String text;
    }

    private static final class Wrong extends RuntimeException {
        final int position;

        Wrong(int position) {
            this.position = position;
        }
    }

    String tape = "";
    List<Text> buffer = new ArrayList<>();
    List<List<Text>> segments = new ArrayList<>();
    int merges;
    String word = "";
    Query query;

    // ---- texts

    int feed(int... numbers) {
        if (tape.length() > 380) {
            throw new IllegalStateException();
        }
        for (int number : numbers) {
            for (int k = 3; k >= 0; k--) {
                tape += (char) (number >> 8 * k & 255);
            }
        }
        return tape.length();
    }

    int trim(int n) {
        check(n >= 0 && n <= tape.length());
        tape = tape.substring(0, n);
        return n;
    }

    private static void check(boolean good) {
        if (!good) {
            throw new IllegalArgumentException();
        }
    }

    private static void checkIndex(int k, int size) {
        if (k < 0 || k >= size) {
            throw new IndexOutOfBoundsException();
        }
    }

    static boolean isRunByte(char c) {
        return c >= 'a' && c <= 'z' || c >= 'A' && c <= 'Z' || c >= '0' && c <= '9';
    }

    static String fold(String run) {
        StringBuilder folded = new StringBuilder();
        for (char c : run.toCharArray()) {
            folded.append(c >= 'A' && c <= 'Z' ? (char) (c + 32) : c);
        }
        return folded.toString();
    }

    static String wordOf(String run) {
        String w = fold(run);
        w = w.substring(0, Math.min(12, w.length()));
        int n = w.length();
        if (w.endsWith("ies") && n > 4) {
            return w.substring(0, n - 3) + "y";
        }
        if (w.endsWith("sses")) {
            return w.substring(0, n - 2);
        }
        if (w.endsWith("s") && !w.endsWith("ss") && !w.endsWith("us") && n > 3) {
            return w.substring(0, n - 1);
        }
        if (w.endsWith("ing") && n > 5) {
            return w.substring(0, n - 3);
        }
        if (w.endsWith("ed") && n > 4) {
            return w.substring(0, n - 2);
        }
        return w;
    }

    static List<String> runsOf(String text) {
        List<String> runs = new ArrayList<>();
        for (String run : text.split("[^A-Za-z0-9]+")) {
            if (!run.isEmpty()) {
                runs.add(run);
            }
        }
        return runs;
    }

    private static List<String> wordsOf(String text) {
        List<String> words = new ArrayList<>();
        for (String run : runsOf(text)) {
            words.add(SMALL.contains(fold(run)) ? null : wordOf(run));
        }
        return words;
    }

    int add(int key, int shelf, int rank) {
        check(key >= 0 && key < 100 && shelf >= 0 && shelf < 8 && rank >= 0 && rank < 1000);
        boolean inBuffer = buffered(key) != null;
        if (texts() + 1 - (inBuffer ? 1 : 0) > 60) {
            throw new IllegalStateException();
        }
        if (find(key) != null || inBuffer) {
            takeOut(key);
        }
        Text text = new Text();
        text.key = key;
        text.shelf = shelf;
        text.rank = rank;
        int bar = tape.indexOf('|');
        text.fields.add(wordsOf(bar < 0 ? "" : tape.substring(0, bar)));
        text.fields.add(wordsOf(bar < 0 ? tape : tape.substring(bar + 1)));
        buffer.add(text);
        tape = "";
        int count = 0;
        for (List<String> field : text.fields) {
            for (String w : field) {
                count += w == null ? 0 : 1;
            }
        }
        return count;
    }

    private Text buffered(int key) {
        for (Text text : buffer) {
            if (text.key == key) {
                return text;
            }
        }
        return null;
    }

    private List<Text> filed() {
        List<Text> all = new ArrayList<>();
        for (List<Text> segment : segments) {
            all.addAll(segment);
        }
        return all;
    }

    /** The text in a segment, not marked. */
    private Text find(int key) {
        for (Text text : filed()) {
            if (text.key == key && !text.marked) {
                return text;
            }
        }
        return null;
    }

    boolean takeOut(int key) {
        check(key >= 0 && key < 100);
        if (buffered(key) != null) {
            buffer.remove(buffered(key));
            return true;
        }
        Text text = find(key);
        if (text == null) {
            throw new IllegalStateException();
        }
        text.marked = true;
        return false;
    }

    private static int level(List<Text> segment) {
        int n = segment.size();
        return n <= 3 ? 0 : n <= 12 ? 1 : n <= 39 ? 2 : 3;
    }

    int commit() {
        if (!buffer.isEmpty()) {
            segments.add(buffer);
            buffer = new ArrayList<>();
        }
        boolean again = true;
        while (again) {
            again = false;
            for (int k = 0; k + 2 < segments.size(); k++) {
                int level = level(segments.get(k));
                if (level == level(segments.get(k + 1)) && level == level(segments.get(k + 2))) {
                    merge(k, 3);
                    again = true;
                    break;
                }
            }
        }
        return segments.size();
    }

    private void merge(int first, int count) {
        List<Text> one = new ArrayList<>();
        for (int k = 0; k < count; k++) {
            for (Text text : segments.remove(first)) {
                if (!text.marked) {
                    one.add(text);
                }
            }
        }
        if (!one.isEmpty()) {
            segments.add(first, one);
        }
        merges++;
    }

    int mergeAll() {
        int marked = 0;
        for (Text text : filed()) {
            marked += text.marked ? 1 : 0;
        }
        if (segments.size() > 1 || marked > 0) {
            merge(0, segments.size());
        }
        return marked;
    }

    int texts() {
        return buffer.size() + filed().size();
    }

    int markedIn(int segment) {
        checkIndex(segment, segments.size());
        int marked = 0;
        for (Text text : segments.get(segment)) {
            marked += text.marked ? 1 : 0;
        }
        return marked;
    }

    int textsIn(int segment) {
        checkIndex(segment, segments.size());
        return segments.get(segment).size();
    }

    int levelOf(int segment) {
        checkIndex(segment, segments.size());
        return level(segments.get(segment));
    }

    int wordsIn(int segment, int field) {
        checkIndex(segment, segments.size());
        checkIndex(field, 2);
        Set<String> words = new HashSet<>();
        for (Text text : segments.get(segment)) {
            words.addAll(text.fields.get(field));
        }
        words.remove(null);
        return words.size();
    }

    Text textAt(int segment, int text) {
        checkIndex(segment, segments.size());
        checkIndex(text, segments.get(segment).size());
        return segments.get(segment).get(text);
    }

    int lengthOf(int segment, int text, int field) {
        Text it = textAt(segment, text);
        checkIndex(field, 2);
        return it.fields.get(field).size();
    }

    int segmentOf(int key) {
        check(key >= 0 && key < 100);
        if (buffered(key) != null) {
            return -1;
        }
        for (int k = 0; k < segments.size(); k++) {
            for (Text text : segments.get(k)) {
                if (text.key == key && !text.marked) {
                    return k;
                }
            }
        }
        return -2;
    }

    int shelfOf(int key) {
        check(key >= 0 && key < 100);
        Text text = buffered(key) != null ? buffered(key) : find(key);
        return text == null ? -1 : text.shelf;
    }

    // ---- the word

    int takeWord() {
        List<String> runs = runsOf(tape);
        word = runs.isEmpty() ? "" : wordOf(runs.get(0));
        tape = "";
        return word.length();
    }

    int wordByte(int k) {
        checkIndex(k, word.length());
        return word.charAt(k);
    }

    private static int times(Text text, int field, String word) {
        int times = 0;
        for (String w : text.fields.get(field)) {
            times += word.equals(w) ? 1 : 0;
        }
        return times;
    }

    int textsWith(int field) {
        checkIndex(field, 2);
        int count = 0;
        for (Text text : filed()) {
            count += times(text, field, word) > 0 ? 1 : 0;
        }
        return count;
    }

    int timesIn(int key, int field) {
        check(key >= 0 && key < 100);
        checkIndex(field, 2);
        Text text = find(key);
        return text == null ? 0 : times(text, field, word);
    }

    int rarity(int field) {
        return rarityOf(textsWith(field));
    }

    private int rarityOf(int f) {
        int x = 16 * (filed().size() + 1) / (f + 1);
        int k = 0;
        int power = 1;
        while (power * 2 <= x) {
            power *= 2;
            k++;
        }
        return 16 * k + 16 * x / power - 16;
    }

    int nearest() {
        Map<String, Integer> counts = new HashMap<>();
        for (Text text : filed()) {
            Set<String> words = new HashSet<>(text.fields.get(0));
            words.addAll(text.fields.get(1));
            words.remove(null);
            for (String w : words) {
                counts.merge(w, 1, Integer::sum);
            }
        }
        String best = null;
        for (String w : new TreeSet<>(counts.keySet())) {
            if (best == null || changes(word, w) < changes(word, best)
                || changes(word, w) == changes(word, best) && counts.get(w) > counts.get(best)) {
                best = w;
            }
        }
        if (best == null) {
            return -1;
        }
        int changes = changes(word, best);
        word = best;
        return changes;
    }

    private final Map<String, Integer> known = new HashMap<>();

    private int changes(String a, String b) {
        if (a.isEmpty() || b.isEmpty()) {
            return a.length() + b.length();
        }
        Integer before = known.get(a + " " + b);
        if (before != null) {
            return before;
        }
        int n = a.length();
        int m = b.length();
        String a1 = a.substring(1);
        String b1 = b.substring(1);
        int least = changes(a1, b1) + (a.charAt(0) == b.charAt(0) ? 0 : 1);
        least = Math.min(least, 1 + Math.min(changes(a1, b), changes(a, b1)));
        if (n > 1 && m > 1 && a.charAt(0) == b.charAt(1) && a.charAt(1) == b.charAt(0)) {
            least = Math.min(least, 1 + changes(a.substring(2), b.substring(2)));
        }
        known.put(a + " " + b, least);
        return least;
    }

    // ---- reading a question

    private List<Token> tokens;
    private int next;

    int ask() {
        tokens = tokensOf(tape);
        next = 0;
        tape = "";
        try {
            Query read = readQuery(0);
            want(peek().text != null && peek().text.isEmpty());
            setFields(read, -1);
            query = read;
            return -1;
        } catch (Wrong wrong) {
            return wrong.position;
        }
    }

    private static List<Token> tokensOf(String tape) {
        List<Token> tokens = new ArrayList<>();
        int at = 0;
        int open = 0;
        while (true) {
            while (at < tape.length() && tape.charAt(at) == ' ') {
                at++;
            }
            Token token = new Token();
            token.start = at;
            tokens.add(token);
            if (at == tape.length()) {
                token.text = "";
                return tokens;
            }
            int end = at;
            while (end < tape.length() && isRunByte(tape.charAt(end))) {
                end++;
            }
            end = Math.max(end, at + 1);
            token.text = tape.substring(at, end);
            boolean isSign = "+-\"*~^:()".contains(token.text);
            boolean isRun = isRunByte(tape.charAt(at)) && end - at <= 20;
            if (!isSign && !isRun || tokens.size() > 40) {
                token.text = null;
                return tokens;
            }
            at = end;
        }
    }

    private Token peek() {
        return tokens.get(Math.min(next, tokens.size() - 1));
    }

    private boolean sees(String sign) {
        return sign.equals(peek().text);
    }

    private boolean seesRun() {
        return peek().text != null && !peek().text.isEmpty() && isRunByte(peek().text.charAt(0));
    }

    private void want(boolean good) {
        if (!good) {
            throw new Wrong(peek().start);
        }
    }

    private String take() {
        want(peek().text != null);
        String text = peek().text;
        next++;
        return text;
    }

    private Query readQuery(int open) {
        Query read = new Query();
        do {
            read.parts.add(readPart(open));
        } while (sees("+") || sees("-") || sees("\"") || sees("(") || seesRun());
        return read;
    }

    private Part readPart(int open) {
        Part part = new Part();
        if (sees("+") || sees("-")) {
            part.sign = take().charAt(0);
        }
        part.unit = readUnit(open);
        if (sees("^")) {
            take();
            part.times = readNumber();
        }
        return part;
    }

    private int readNumber() {
        want(seesRun() && peek().text.matches("[0-9]{1,2}"));
        return Integer.parseInt(take());
    }

    private Unit readUnit(int open) {
        int field = -1;
        boolean isNamed = seesRun() && next + 1 < tokens.size() && ":".equals(tokens.get(next + 1).text);
        if (isNamed && (fold(peek().text).equals("title") || fold(peek().text).equals("body"))) {
            field = fold(take()).equals("title") ? 0 : 1;
            take();
        }
        Unit unit = readCore(open);
        unit.field = field;
        return unit;
    }

    private Unit readCore(int open) {
        Unit unit = new Unit();
        if (sees("(")) {
            want(open < 4);
            take();
            unit.inner = readQuery(open + 1);
            want(sees(")"));
            take();
        } else if (sees("\"")) {
            take();
            unit.phrase = new ArrayList<>();
            do {
                want(seesRun());
                unit.phrase.add(take());
            } while (!sees("\""));
            take();
            if (sees("~")) {
                take();
                unit.near = readNumber();
            }
        } else {
            want(seesRun());
            unit.run = take();
            if (sees("*")) {
                take();
                unit.star = true;
            }
        }
        return unit;
    }

    private static void setFields(Query query, int field) {
        for (Part part : query.parts) {
            if (part.unit.field < 0) {
                part.unit.field = field;
            }
            if (part.unit.inner != null) {
                setFields(part.unit.inner, part.unit.field);
            }
        }
    }

    // ---- what fits

    private static Set<Integer> fits(Unit unit, List<String> words) {
        Set<Integer> places = new TreeSet<>();
        for (int p = 0; p < words.size(); p++) {
            if (unit.run != null ? fitsRun(unit, words.get(p)) : fitsPhrase(unit, words, p)) {
                places.add(p);
            }
        }
        return places;
    }

    private static boolean fitsRun(Unit unit, String word) {
        if (word == null) {
            return false;
        }
        if (unit.star) {
            return word.startsWith(fold(unit.run));
        }
        return !SMALL.contains(fold(unit.run)) && word.equals(wordOf(unit.run));
    }

    private static boolean fitsPhrase(Unit unit, List<String> words, int p) {
        List<String> big = new ArrayList<>();
        List<Integer> numbers = new ArrayList<>();
        for (int i = 0; i < unit.phrase.size(); i++) {
            if (!SMALL.contains(fold(unit.phrase.get(i)))) {
                big.add(wordOf(unit.phrase.get(i)));
                numbers.add(i);
            }
        }
        if (big.isEmpty()) {
            return false;
        }
        if (big.size() == 1) {
            return big.get(0).equals(words.get(p));
        }
        if (unit.near > 0) {
            int apart = unit.near + unit.phrase.size() - 1;
            return big.get(0).equals(words.get(p)) && canChoose(big, 1, words, List.of(p), apart);
        }
        for (int k = 0; k < big.size(); k++) {
            int place = p + numbers.get(k);
            if (place >= words.size() || !big.get(k).equals(words.get(place))) {
                return false;
            }
        }
        return true;
    }

    /** Tries every choice of places for the words from k on. */
    private static boolean canChoose(List<String> big, int k, List<String> words, List<Integer> chosen, int apart) {
        int least = Integer.MAX_VALUE;
        int greatest = 0;
        for (int place : chosen) {
            least = Math.min(least, place);
            greatest = Math.max(greatest, place);
        }
        if (greatest - least > apart) {
            return false;
        }
        if (k == big.size()) {
            return true;
        }
        for (int place = 0; place < words.size(); place++) {
            if (big.get(k).equals(words.get(place)) && !chosen.contains(place)) {
                List<Integer> more = new ArrayList<>(chosen);
                more.add(place);
                if (canChoose(big, k + 1, words, more, apart)) {
                    return true;
                }
            }
        }
        return false;
    }

    private static Set<Integer> fitsIn(Unit unit, Text text, int field) {
        boolean isLooked = unit.field < 0 || unit.field == field;
        return isLooked ? fits(unit, text.fields.get(field)) : Set.of();
    }

    private static boolean isIn(Unit unit, Text text) {
        if (unit.inner != null) {
            return finds(unit.inner.parts, text);
        }
        return !fitsIn(unit, text, 0).isEmpty() || !fitsIn(unit, text, 1).isEmpty();
    }

    private static boolean finds(List<Part> parts, Text text) {
        boolean hasPlus = false;
        boolean hasPlain = false;
        for (Part part : parts) {
            boolean in = isIn(part.unit, text);
            if (part.sign == '+' && !in || part.sign == '-' && in) {
                return false;
            }
            hasPlus |= part.sign == '+';
            hasPlain |= part.sign == ' ' && in;
        }
        return hasPlus || hasPlain;
    }

    // ---- weights

    private int unitWeight(Unit unit, Text text) {
        if (!isIn(unit, text)) {
            return 0;
        }
        if (unit.inner != null) {
            return queryWeight(unit.inner, text);
        }
        int weight = 0;
        for (int field = 0; field < 2; field++) {
            int t = fitsIn(unit, text, field).size();
            if (t > 0) {
                int in = 0;
                int sum = 0;
                for (Text other : filed()) {
                    in += fitsIn(unit, other, field).isEmpty() ? 0 : 1;
                    sum += other.fields.get(field).size();
                }
                int mean = Math.max(1, sum / filed().size());
                int length = text.fields.get(field).size();
                int one = rarityOf(in) * 22 * t / (10 * t + 3 + 9 * length / mean);
                weight += field == 0 ? 2 * one : one;
            }
        }
        return Math.min(1000000, weight);
    }

    private int weight(Part part, Text text) {
        if (part.sign == '-') {
            return 0;
        }
        return Math.min(1000000, unitWeight(part.unit, text) * part.times);
    }

    private int queryWeight(Query query, Text text) {
        int weight = 0;
        for (Part part : query.parts) {
            if (isIn(part.unit, text)) {
                weight += weight(part, text);
            }
        }
        return Math.min(1000000, weight);
    }

    private void needQuery() {
        if (query == null) {
            throw new IllegalStateException();
        }
    }

    int parts() {
        needQuery();
        return query.parts.size();
    }

    List<Text> order() {
        needQuery();
        List<Text> found = new ArrayList<>();
        Map<Text, Integer> weights = new HashMap<>();
        for (Text text : filed()) {
            if (!text.marked && finds(query.parts, text)) {
                found.add(text);
                weights.put(text, queryWeight(query, text));
            }
        }
        found.sort((a, b) -> {
            if (!weights.get(a).equals(weights.get(b))) {
                return weights.get(b) - weights.get(a);
            }
            return a.rank != b.rank ? b.rank - a.rank : a.key - b.key;
        });
        return found;
    }

    int found() {
        return order().size();
    }

    int keyFound(int place) {
        List<Text> order = order();
        checkIndex(place, order.size());
        return order.get(place).key;
    }

    int weightFound(int place) {
        List<Text> order = order();
        checkIndex(place, order.size());
        return queryWeight(query, order.get(place));
    }

    int foundOn(int shelf) {
        List<Text> order = order();
        checkIndex(shelf, 8);
        int count = 0;
        for (Text text : order) {
            count += text.shelf == shelf ? 1 : 0;
        }
        return count;
    }

    int placeOf(int key) {
        List<Text> order = order();
        check(key >= 0 && key < 100);
        for (int place = 0; place < order.size(); place++) {
            if (order.get(place).key == key) {
                return place;
            }
        }
        return -1;
    }

    int partWeight(int key, int part) {
        needQuery();
        check(key >= 0 && key < 100);
        checkIndex(part, query.parts.size());
        Text text = find(key);
        return text == null ? 0 : weight(query.parts.get(part), text);
    }

    int foundWithout(int part) {
        needQuery();
        checkIndex(part, query.parts.size());
        List<Part> rest = new ArrayList<>(query.parts);
        rest.remove(part);
        int count = 0;
        for (Text text : filed()) {
            count += !text.marked && finds(rest, text) ? 1 : 0;
        }
        return count;
    }

    int firstFit(int key, int field) {
        needQuery();
        check(key >= 0 && key < 100);
        checkIndex(field, 2);
        Text text = find(key);
        return text == null ? -1 : firstFit(query, text, field);
    }

    private static int firstFit(Query query, Text text, int field) {
        int least = -1;
        for (Part part : query.parts) {
            int first = -1;
            if (part.sign == '-') {
                continue;
            }
            if (part.unit.inner != null) {
                first = firstFit(part.unit.inner, text, field);
            } else if (!fitsIn(part.unit, text, field).isEmpty()) {
                first = fitsIn(part.unit, text, field).iterator().next();
            }
            if (first >= 0 && (least < 0 || first < least)) {
                least = first;
            }
        }
        return least;
    }

    double meanWeight() {
        List<Text> order = order();
        double sum = 0;
        for (Text text : order) {
            sum += queryWeight(query, text);
        }
        return order.isEmpty() ? 0 : sum / order.size();
    }

    long digest() {
        List<Integer> all = new ArrayList<>(List.of(texts(), buffer.size(), merges, segments.size()));
        for (int s = 0; s < segments.size(); s++) {
            all.addAll(List.of(textsIn(s), markedIn(s), levelOf(s), wordsIn(s, 0), wordsIn(s, 1)));
            for (int t = 0; t < textsIn(s); t++) {
                Text text = textAt(s, t);
                all.addAll(List.of(text.key, text.marked ? 1 : 0, lengthOf(s, t, 0), lengthOf(s, t, 1)));
            }
        }
        all.add(word.length());
        for (char c : word.toCharArray()) {
            all.add((int) c);
        }
        all.addAll(List.of(textsWith(0), rarity(0), textsWith(1), rarity(1), query == null ? 0 : 1));
        if (query != null) {
            all.addAll(List.of(parts(), found()));
            for (Text text : order()) {
                all.add(text.key);
                all.add(queryWeight(query, text));
                all.add(firstFit(text.key, 0));
                all.add(firstFit(text.key, 1));
            }
            for (int shelf = 0; shelf < 8; shelf++) {
                all.add(foundOn(shelf));
            }
            for (int part = 0; part < parts(); part++) {
                all.add(foundWithout(part));
            }
        }
        long d = 2447;
        for (int v : all) {
            d = d * 31 + v;
        }
        return d;
    }
}
