import java.util.ArrayList;
import java.util.Arrays;

/** A search engine over a few short texts: see README.md. */
public final class BeaconIndex {
    private static final int TAPE_BYTES = 400;
    private static final int FEED_BYTES = 20;
    private static final int NO_BYTE = -1;
    private static final int BLANK = 32;

    private static final int KEYS = 100;
    private static final int SHELVES = 8;
    private static final int RANKS = 1000;
    private static final int MOST_TEXTS = 60;
    private static final int MERGED_AT_ONCE = 3;

    private static final int TITLE = 0;
    private static final int BODY = 1;
    private static final int FIELDS = 2;
    private static final int EITHER_FIELD = 2;

    private static final int WORD_BYTES = 12;
    private static final long NO_WORD = 0L;
    /** Stands in a row for a small word, so that it takes a place but equals no word. */
    private static final long SMALL_WORD = -1L;
    private static final int NOWHERE = -1;

    private static final int MOST_TOKENS = 40;
    private static final int MOST_RUN_BYTES = 20;
    private static final int MOST_OPEN = 4;
    private static final int NO_ERROR = -1;
    private static final int NO_SIGN = 0;

    private static final int MOST_WEIGHT = 1000000;
    private static final long DIGEST_START = 2447L;

    private final Tape tape = new Tape();
    private final Store store = new Store();
    private final Vocabulary vocabulary = new Vocabulary();
    private final QuestionReader questionReader = new QuestionReader();
    /** They are dear, so they are made anew where segments or the question change, not where they are read. */
    private final Findings findings = new Findings();
    private long word = NO_WORD;
    /** The question, and behind it those in it; none as long as nothing was asked. */
    private ArrayList<Question> asked = new ArrayList<>();

    public BeaconIndex() {
    }

    // ---- texts

    public int feed(int a, int b, int c, int d, int e) throws IllegalStateException {
        if (tape.length + FEED_BYTES > TAPE_BYTES) {
            throw new IllegalStateException();
        }
        tape.append(a);
        tape.append(b);
        tape.append(c);
        tape.append(d);
        tape.append(e);
        return tape.length;
    }

    public int trim(int n) throws IllegalArgumentException {
        if (n < 0 || n > tape.length) {
            throw new IllegalArgumentException();
        }
        tape.length = n;
        return n;
    }

    public int add(int key, int shelf, int rank) throws IllegalArgumentException, IllegalStateException {
        checkKey(key);
        if (shelf < 0 || shelf >= SHELVES || rank < 0 || rank >= RANKS) {
            throw new IllegalArgumentException();
        }
        boolean takesPlaceOfBuffered = store.placeInBuffer(key) != NOWHERE;
        if (store.textCount() >= MOST_TEXTS && !takesPlaceOfBuffered) {
            throw new IllegalStateException();
        }
        int bar = tape.firstPlaceOf('|');
        Text text = new Text(key, shelf, rank, tape.rowOf(0, bar), tape.rowOf(bar, tape.length));
        tape.length = 0;
        if (store.drop(key)) {
            findings.refresh(asked, store.filed);
        }
        store.buffer.add(text);
        return text.wordCount();
    }

    public boolean takeOut(int key) throws IllegalArgumentException, IllegalStateException {
        checkKey(key);
        boolean wasBuffered = store.placeInBuffer(key) != NOWHERE;
        if (!wasBuffered && store.placeInSegments(key) == NOWHERE) {
            throw new IllegalStateException();
        }
        if (store.drop(key)) {
            findings.refresh(asked, store.filed);
        }
        return wasBuffered;
    }

    public int commit() {
        store.fileBuffer();
        store.mergeWhereDue();
        findings.refresh(asked, store.filed);
        return store.segmentCount;
    }

    public int mergeAll() {
        int gone = store.mergeEverything();
        findings.refresh(asked, store.filed);
        return gone;
    }

    public int texts() {
        return store.textCount();
    }

    public int buffered() {
        return store.buffer.size();
    }

    public int segments() {
        return store.segmentCount;
    }

    public int merges() {
        return store.mergeCount;
    }

    public int textsIn(int segment) throws IndexOutOfBoundsException {
        checkSegment(segment);
        return store.sizeOf(segment);
    }

    public int markedIn(int segment) throws IndexOutOfBoundsException {
        checkSegment(segment);
        return store.markedAmong(segment);
    }

    public int levelOf(int segment) throws IndexOutOfBoundsException {
        checkSegment(segment);
        return store.levelAt(segment);
    }

    public int wordsIn(int segment, int field) throws IndexOutOfBoundsException {
        checkSegment(segment);
        checkField(field);
        vocabulary.size = 0;
        int start = store.startOf(segment);
        for (int i = 0; i < store.sizeOf(segment); i++) {
            vocabulary.noteRow(store.filedAt(start + i).row(field), i);
        }
        return vocabulary.size;
    }

    public int keyAt(int segment, int text) throws IndexOutOfBoundsException {
        checkText(segment, text);
        return store.textOf(segment, text).key;
    }

    public boolean isMarked(int segment, int text) throws IndexOutOfBoundsException {
        checkText(segment, text);
        return store.textOf(segment, text).marked;
    }

    public int lengthOf(int segment, int text, int field) throws IndexOutOfBoundsException {
        checkText(segment, text);
        checkField(field);
        return store.textOf(segment, text).row(field).length;
    }

    public int segmentOf(int key) throws IllegalArgumentException {
        checkKey(key);
        if (store.placeInBuffer(key) != NOWHERE) {
            return -1;
        }
        int place = store.placeInSegments(key);
        return place == NOWHERE ? -2 : store.segmentAround(place);
    }

    public int shelfOf(int key) throws IllegalArgumentException {
        checkKey(key);
        int place = store.placeInBuffer(key);
        if (place != NOWHERE) {
            return store.buffer.get(place).shelf;
        }
        place = store.placeInSegments(key);
        return place == NOWHERE ? -1 : store.filedAt(place).shelf;
    }

    // ---- the word

    public int takeWord() {
        word = tape.seekRun(0, tape.length) ? tape.runWord() : NO_WORD;
        tape.length = 0;
        return Words.sizeOf(word);
    }

    public int wordByte(int k) throws IndexOutOfBoundsException {
        if (k < 0 || k >= Words.sizeOf(word)) {
            throw new IndexOutOfBoundsException();
        }
        return Words.byteOf(Words.signAt(word, k));
    }

    public int textsWith(int field) throws IndexOutOfBoundsException {
        checkField(field);
        int count = 0;
        for (int i = 0; i < store.filed.size(); i++) {
            if (store.filedAt(i).timesOf(word, field) > 0) {
                count++;
            }
        }
        return count;
    }

    public int timesIn(int key, int field) throws IllegalArgumentException, IndexOutOfBoundsException {
        checkKey(key);
        checkField(field);
        int place = store.placeInSegments(key);
        return place == NOWHERE ? 0 : store.filedAt(place).timesOf(word, field);
    }

    public int rarity(int field) throws IndexOutOfBoundsException {
        return Fits.rarityOf(store.filed.size(), textsWith(field));
    }

    public int nearest() {
        vocabulary.size = 0;
        for (int i = 0; i < store.filed.size(); i++) {
            vocabulary.noteRow(store.filedAt(i).row(TITLE), i);
            vocabulary.noteRow(store.filedAt(i).row(BODY), i);
        }
        if (vocabulary.size == 0) {
            return -1;
        }
        long best = vocabulary.wordAt(vocabulary.nearestTo(word));
        int changes = vocabulary.changes(word, best);
        word = best;
        return changes;
    }

    // ---- questions

    public int ask() {
        int error = questionReader.read(tape);
        tape.length = 0;
        if (error == NO_ERROR) {
            asked = questionReader.draft;
            findings.refresh(asked, store.filed);
        }
        return error;
    }

    public int parts() throws IllegalStateException {
        checkQuestion();
        return question().parts.size();
    }

    public int found() throws IllegalStateException {
        checkQuestion();
        return findings.count;
    }

    public int keyFound(int place) throws IllegalStateException, IndexOutOfBoundsException {
        checkQuestion();
        checkPlace(place);
        return store.filedAt(findings.textAt(place)).key;
    }

    public int weightFound(int place) throws IllegalStateException, IndexOutOfBoundsException {
        checkQuestion();
        checkPlace(place);
        return findings.weightAt(place);
    }

    public int foundOn(int shelf) throws IllegalStateException, IndexOutOfBoundsException {
        checkQuestion();
        if (shelf < 0 || shelf >= SHELVES) {
            throw new IndexOutOfBoundsException();
        }
        int count = 0;
        for (int place = 0; place < findings.count; place++) {
            if (store.filedAt(findings.textAt(place)).shelf == shelf) {
                count++;
            }
        }
        return count;
    }

    public int placeOf(int key) throws IllegalStateException, IllegalArgumentException {
        checkQuestion();
        checkKey(key);
        for (int place = 0; place < findings.count; place++) {
            if (store.filedAt(findings.textAt(place)).key == key) {
                return place;
            }
        }
        return -1;
    }

    public int partWeight(int key, int part)
            throws IllegalStateException, IllegalArgumentException, IndexOutOfBoundsException {
        checkQuestion();
        checkKey(key);
        checkPart(part);
        int text = store.placeInSegments(key);
        return text == NOWHERE ? 0 : findings.weightOfPart(question().parts.get(part), text);
    }

    public int foundWithout(int part) throws IllegalStateException, IndexOutOfBoundsException {
        checkQuestion();
        checkPart(part);
        return findings.countWithout(part, question(), store.filed);
    }

    public int firstFit(int key, int field)
            throws IllegalStateException, IllegalArgumentException, IndexOutOfBoundsException {
        checkQuestion();
        checkKey(key);
        checkField(field);
        int text = store.placeInSegments(key);
        return text == NOWHERE ? NOWHERE : findings.fits.firstOfAll(asked, text, field);
    }

    public double meanWeight() throws IllegalStateException {
        checkQuestion();
        if (findings.count == 0) {
            return 0.0;
        }
        long sum = 0L;
        for (int place = 0; place < findings.count; place++) {
            sum += findings.weightAt(place);
        }
        return (double) sum / (double) findings.count;
    }

    public long digest() {
        long d = DIGEST_START;
        d = stir(d, texts());
        d = stir(d, buffered());
        d = stir(d, merges());
        d = stir(d, segments());
        for (int segment = 0; segment < segments(); segment++) {
            d = stirSegment(d, segment);
        }
        d = stirWord(d);
        d = stir(d, asked.isEmpty() ? 0 : 1);
        return asked.isEmpty() ? d : stirQuestion(d);
    }

    // ---- parts of the digest

    private static long stir(long d, long v) {
        return d * 31L + v;
    }

    private long stirSegment(long before, int segment) {
        long d = before;
        d = stir(d, textsIn(segment));
        d = stir(d, markedIn(segment));
        d = stir(d, levelOf(segment));
        d = stir(d, wordsIn(segment, TITLE));
        d = stir(d, wordsIn(segment, BODY));
        for (int text = 0; text < textsIn(segment); text++) {
            d = stir(d, keyAt(segment, text));
            d = stir(d, isMarked(segment, text) ? 1 : 0);
            d = stir(d, lengthOf(segment, text, TITLE));
            d = stir(d, lengthOf(segment, text, BODY));
        }
        return d;
    }

    private long stirWord(long before) {
        int size = Words.sizeOf(word);
        long d = stir(before, size);
        for (int k = 0; k < size; k++) {
            d = stir(d, wordByte(k));
        }
        for (int field = 0; field < FIELDS; field++) {
            d = stir(d, textsWith(field));
            d = stir(d, rarity(field));
        }
        return d;
    }

    private long stirQuestion(long before) {
        long d = stir(before, parts());
        d = stir(d, found());
        for (int place = 0; place < found(); place++) {
            int key = keyFound(place);
            d = stir(d, key);
            d = stir(d, weightFound(place));
            d = stir(d, firstFit(key, TITLE));
            d = stir(d, firstFit(key, BODY));
        }
        for (int shelf = 0; shelf < SHELVES; shelf++) {
            d = stir(d, foundOn(shelf));
        }
        for (int part = 0; part < parts(); part++) {
            d = stir(d, foundWithout(part));
        }
        return d;
    }

    // ---- checks of what the caller gives

    private static void checkKey(int key) {
        if (key < 0 || key >= KEYS) {
            throw new IllegalArgumentException();
        }
    }

    private static void checkField(int field) {
        if (field < 0 || field >= FIELDS) {
            throw new IndexOutOfBoundsException();
        }
    }

    private void checkSegment(int segment) {
        if (segment < 0 || segment >= store.segmentCount) {
            throw new IndexOutOfBoundsException();
        }
    }

    private void checkText(int segment, int text) {
        checkSegment(segment);
        if (text < 0 || text >= store.sizeOf(segment)) {
            throw new IndexOutOfBoundsException();
        }
    }

    private void checkQuestion() {
        if (asked.isEmpty()) {
            throw new IllegalStateException();
        }
    }

    private void checkPlace(int place) {
        if (place < 0 || place >= findings.count) {
            throw new IndexOutOfBoundsException();
        }
    }

    private void checkPart(int part) {
        if (part < 0 || part >= question().parts.size()) {
            throw new IndexOutOfBoundsException();
        }
    }

    private Question question() {
        return asked.isEmpty() ? questionReader.noQuestion : asked.get(0);
    }

    /** The bytes that have been fed and not yet been taken; and one run of them, the latest that was sought. */
    private static final class Tape {
        final int[] bytes = new int[TAPE_BYTES];
        final long[] row = new long[TAPE_BYTES / 2];
        /** The first bytes of the run, folded: as many as a word can have. */
        final int[] letters = new int[WORD_BYTES];
        int length = 0;
        int runStart = 0;
        int runEnd = 0;
        int kept = 0;

        void append(int number) {
            for (int shift = 24; shift >= 0; shift -= 8) {
                if (length >= 0 && length < bytes.length) {
                    bytes[length] = (number >>> shift) & 255;
                    length++;
                }
            }
        }

        int at(int place) {
            return place >= 0 && place < length && place < bytes.length ? bytes[place] : NO_BYTE;
        }

        /** Without one it is 0, so that what is ahead of it is empty then. */
        int firstPlaceOf(int wanted) {
            for (int place = 0; place < length; place++) {
                if (at(place) == wanted) {
                    return place;
                }
            }
            return 0;
        }

        boolean seekRun(int from, int limit) {
            int place = from;
            while (place < limit && Words.signOf(at(place)) == 0) {
                place++;
            }
            runStart = place;
            while (place < limit && Words.signOf(at(place)) != 0) {
                place++;
            }
            runEnd = place;
            kept = Math.min(runEnd - runStart, WORD_BYTES);
            for (int k = 0; k < kept && k < letters.length; k++) {
                letters[k] = Words.byteOf(Words.signOf(at(runStart + k)));
            }
            return runStart < runEnd;
        }

        /** The words of a stretch of the tape, place by place. */
        long[] rowOf(int from, int limit) {
            int count = 0;
            int at = from;
            while (count < row.length && seekRun(at, limit)) {
                row[count] = isRunSmall() ? SMALL_WORD : runWord();
                count++;
                at = runEnd;
            }
            return Arrays.copyOf(row, count);
        }

        int runBytes() {
            return runEnd - runStart;
        }

        boolean isRun(String text) {
            return kept == text.length() && runEndsWith(text);
        }

        boolean isRunSmall() {
            return isRun("the") || isRun("a") || isRun("an") || isRun("of") || isRun("and") || isRun("or")
                || isRun("to") || isRun("in");
        }

        /** The run as it stands, but cut like a word. */
        long runUnshortened() {
            return firstLetters(kept);
        }

        long runWord() {
            if (runEndsWith("ies") && kept > 4) {
                return Words.withSign(firstLetters(kept - 3), kept - 3, Words.signOf('y'));
            }
            if (runEndsWith("sses")) {
                return firstLetters(kept - 2);
            }
            if (runEndsWith("s") && !runEndsWith("ss") && !runEndsWith("us") && kept > 3) {
                return firstLetters(kept - 1);
            }
            if (runEndsWith("ing") && kept > 5) {
                return firstLetters(kept - 3);
            }
            if (runEndsWith("ed") && kept > 4) {
                return firstLetters(kept - 2);
            }
            return firstLetters(kept);
        }

        private boolean runEndsWith(String tail) {
            int from = kept - tail.length();
            if (from < 0) {
                return false;
            }
            for (int k = 0; k < tail.length() && from + k < letters.length; k++) {
                if (letters[from + k] != tail.charAt(k)) {
                    return false;
                }
            }
            return true;
        }

        private long firstLetters(int count) {
            long word = NO_WORD;
            for (int k = 0; k < count && k < letters.length; k++) {
                word = Words.withSign(word, k, Words.signOf(letters[k]));
            }
            return word;
        }
    }

    /**
     * A word is one long: twelve signs of base 37, the first one highest, 0 behind its end. So words are
     * equal when their numbers are, and stand in the order of their bytes when their numbers do.
     */
    private static final class Words {
        private static final long BASE = 37L;
        private static final long[] POWERS = {
            1L, 37L, 1369L, 50653L, 1874161L, 69343957L, 2565726409L, 94931877133L, 3512479453921L,
            129961739795077L, 4808584372417849L, 177917621779460413L, 6582952005840035281L};

        /** From 1 on for what can stand in a run, the same for A and a; 0 for all else. */
        static int signOf(int b) {
            if (b >= '0' && b <= '9') {
                return b - '0' + 1;
            }
            if (b >= 'a' && b <= 'z') {
                return b - 'a' + 11;
            }
            if (b >= 'A' && b <= 'Z') {
                return b - 'A' + 11;
            }
            return 0;
        }

        static int byteOf(int sign) {
            return sign <= 10 ? sign - 1 + '0' : sign - 11 + 'a';
        }

        static long power(int exponent) {
            return exponent >= 0 && exponent < POWERS.length ? POWERS[exponent] : 1L;
        }

        static long withSign(long word, int place, int sign) {
            return word + sign * power(WORD_BYTES - 1 - place);
        }

        static int signAt(long word, int place) {
            return (int) (word / power(WORD_BYTES - 1 - place) % BASE);
        }

        static int sizeOf(long word) {
            int size = 0;
            while (size < WORD_BYTES && signAt(word, size) != 0) {
                size++;
            }
            return size;
        }

        static boolean beginsWith(long word, long start, int startSize) {
            if (word <= NO_WORD || startSize > WORD_BYTES) {
                return false;
            }
            long rest = power(WORD_BYTES - startSize);
            return word / rest == start / rest;
        }
    }

    private static final class Text {
        final int key;
        final int shelf;
        final int rank;
        final long[] title;
        final long[] body;
        boolean marked = false;

        Text(int key, int shelf, int rank, long[] title, long[] body) {
            this.key = key;
            this.shelf = shelf;
            this.rank = rank;
            this.title = title;
            this.body = body;
        }

        long[] row(int field) {
            return field == TITLE ? title : body;
        }

        int timesOf(long word, int field) {
            long[] words = row(field);
            int times = 0;
            for (int place = 0; place < words.length; place++) {
                if (words[place] == word) {
                    times++;
                }
            }
            return times;
        }

        int wordCount() {
            int small = timesOf(SMALL_WORD, TITLE) + timesOf(SMALL_WORD, BODY);
            return title.length + body.length - small;
        }
    }

    /** The buffer and the segments. */
    private static final class Store {
        final ArrayList<Text> buffer = new ArrayList<>();
        /** The texts of all segments, one segment behind the other: how many are whose, tells sizes. */
        final ArrayList<Text> filed = new ArrayList<>();
        final int[] sizes = new int[MOST_TEXTS];
        final Text nothing = new Text(0, 0, 0, new long[0], new long[0]);
        int segmentCount = 0;
        int mergeCount = 0;

        int textCount() {
            return buffer.size() + filed.size();
        }

        Text filedAt(int place) {
            return place >= 0 && place < filed.size() ? filed.get(place) : nothing;
        }

        int placeInBuffer(int key) {
            for (int place = 0; place < buffer.size(); place++) {
                if (buffer.get(place).key == key) {
                    return place;
                }
            }
            return NOWHERE;
        }

        int placeInSegments(int key) {
            for (int place = 0; place < filed.size(); place++) {
                Text text = filed.get(place);
                if (text.key == key && !text.marked) {
                    return place;
                }
            }
            return NOWHERE;
        }

        /** Answers whether a segment has changed by it. */
        boolean drop(int key) {
            int place = placeInBuffer(key);
            if (place != NOWHERE) {
                buffer.remove(place);
            }
            place = placeInSegments(key);
            if (place != NOWHERE) {
                filed.get(place).marked = true;
            }
            return place != NOWHERE;
        }

        int sizeOf(int segment) {
            return segment >= 0 && segment < segmentCount && segment < sizes.length ? sizes[segment] : 0;
        }

        int startOf(int segment) {
            int start = 0;
            for (int before = 0; before < segment && before < segmentCount; before++) {
                start += sizeOf(before);
            }
            return start;
        }

        int segmentAround(int place) {
            int segment = 0;
            int behind = sizeOf(segment);
            while (segment < segmentCount && behind <= place) {
                segment++;
                behind += sizeOf(segment);
            }
            return segment;
        }

        Text textOf(int segment, int text) {
            return filedAt(startOf(segment) + text);
        }

        int markedAmong(int segment) {
            int start = startOf(segment);
            int marked = 0;
            for (int i = 0; i < sizeOf(segment); i++) {
                if (filedAt(start + i).marked) {
                    marked++;
                }
            }
            return marked;
        }

        int levelAt(int segment) {
            int size = sizeOf(segment);
            if (size <= 3) {
                return 0;
            }
            if (size <= 12) {
                return 1;
            }
            return size <= 39 ? 2 : 3;
        }

        void fileBuffer() {
            if (buffer.isEmpty() || segmentCount >= sizes.length) {
                return;
            }
            for (int i = 0; i < buffer.size(); i++) {
                filed.add(buffer.get(i));
            }
            sizes[segmentCount] = buffer.size();
            segmentCount++;
            buffer.clear();
        }

        void mergeWhereDue() {
            int first = firstOfThreeAlike();
            for (int n = 0; n < MOST_TEXTS && first != NOWHERE; n++) {
                mergeFrom(first, MERGED_AT_ONCE);
                first = firstOfThreeAlike();
            }
        }

        int mergeEverything() {
            if (segmentCount == 0 || segmentCount == 1 && markedAmong(0) == 0) {
                return 0;
            }
            return mergeFrom(0, segmentCount);
        }

        private int firstOfThreeAlike() {
            for (int first = 0; first + MERGED_AT_ONCE <= segmentCount; first++) {
                int level = levelAt(first);
                if (levelAt(first + 1) == level && levelAt(first + 2) == level) {
                    return first;
                }
            }
            return NOWHERE;
        }

        /** Answers how many texts go for good. */
        private int mergeFrom(int first, int count) {
            int start = startOf(first);
            int behind = startOf(first + count);
            int gone = 0;
            for (int place = behind - 1; place >= start; place--) {
                if (filedAt(place).marked) {
                    filed.remove(place);
                    gone++;
                }
            }
            replaceSizes(first, count, behind - start - gone);
            mergeCount++;
            return gone;
        }

        private void replaceSizes(int first, int count, int size) {
            int left = size > 0 ? 1 : 0;
            if (left > 0 && first < sizes.length) {
                sizes[first] = size;
            }
            int shift = count - left;
            for (int segment = first + left; segment + shift < segmentCount; segment++) {
                sizes[segment] = sizeOf(segment + shift);
            }
            segmentCount -= shift;
        }
    }

    /** Different words, in the order of their bytes, each with how many texts it stands in. */
    private static final class Vocabulary {
        long[] words = new long[64];
        int[] textCounts = new int[64];
        int[] latestTexts = new int[64];
        int size = 0;
        final int[][] costs = new int[WORD_BYTES + 1][WORD_BYTES + 1];
        final int[] from = new int[WORD_BYTES];
        final int[] to = new int[WORD_BYTES];

        long wordAt(int k) {
            return k >= 0 && k < size && k < words.length ? words[k] : NO_WORD;
        }

        int textCountAt(int k) {
            return k >= 0 && k < size && k < textCounts.length ? textCounts[k] : 0;
        }

        void noteRow(long[] row, int text) {
            for (int place = 0; place < row.length; place++) {
                if (row[place] != SMALL_WORD) {
                    note(row[place], text);
                }
            }
        }

        private void note(long word, int text) {
            int k = placeFor(word);
            if (k >= size || wordAt(k) != word) {
                makeRoomAt(k);
                words[k] = word;
                textCounts[k] = 1;
                latestTexts[k] = text;
            } else if (latestTexts[k] != text) {
                textCounts[k]++;
                latestTexts[k] = text;
            }
        }

        private int placeFor(long word) {
            int low = 0;
            int high = size;
            for (int step = 0; step < 32 && low < high; step++) {
                int middle = (low + high) / 2;
                if (wordAt(middle) < word) {
                    low = middle + 1;
                } else {
                    high = middle;
                }
            }
            return low;
        }

        private void makeRoomAt(int k) {
            if (size >= words.length) {
                words = Arrays.copyOf(words, size * 2);
                textCounts = Arrays.copyOf(textCounts, size * 2);
                latestTexts = Arrays.copyOf(latestTexts, size * 2);
            }
            System.arraycopy(words, k, words, k + 1, size - k);
            System.arraycopy(textCounts, k, textCounts, k + 1, size - k);
            System.arraycopy(latestTexts, k, latestTexts, k + 1, size - k);
            size++;
        }

        /** Answers its place here. */
        int nearestTo(long word) {
            int best = 0;
            int fewest = changes(word, wordAt(0));
            for (int k = 1; k < size; k++) {
                int count = changes(word, wordAt(k));
                boolean isCommoner = textCountAt(k) > textCountAt(best);
                if (count < fewest || count == fewest && isCommoner) {
                    best = k;
                    fewest = count;
                }
            }
            return best;
        }

        int changes(long word, long other) {
            int rows = spread(word, from);
            int columns = spread(other, to);
            for (int i = 0; i <= rows; i++) {
                for (int j = 0; j <= columns; j++) {
                    costs[i][j] = costAt(i, j);
                }
            }
            return costs[rows][columns];
        }

        private static int spread(long word, int[] signs) {
            int size = Math.min(Words.sizeOf(word), signs.length);
            for (int k = 0; k < size; k++) {
                signs[k] = Words.signAt(word, k);
            }
            return size;
        }

        private int costAt(int i, int j) {
            if (i == 0 || j == 0) {
                return i + j;
            }
            int cost = costs[i - 1][j - 1] + (from[i - 1] == to[j - 1] ? 0 : 1);
            cost = Math.min(cost, costs[i - 1][j] + 1);
            cost = Math.min(cost, costs[i][j - 1] + 1);
            if (i > 1 && j > 1 && from[i - 1] == to[j - 2] && from[i - 2] == to[j - 1]) {
                cost = Math.min(cost, costs[i - 2][j - 2] + 1);
            }
            return cost;
        }
    }

    private static final class Part {
        static final int RUN = 0;
        static final int BEGINNING = 1;
        static final int PHRASE = 2;
        static final int QUESTION = 3;

        /** Different for all parts of a question and of those in it. */
        final int number;
        final int sign;
        final int field;
        /** Whether it, or a part around it, has a minus. */
        final boolean barred;
        /** The words of its runs, with NO_WORD for a small one: that equals nothing in a text. */
        final long[] words;
        int kind;
        int factor = 1;
        int looseness = 0;
        long beginning = NO_WORD;
        int beginningBytes = 0;
        /** The place of the question in it among all that were asked with it. */
        int inner = 0;
        int titleRarity = 0;
        int bodyRarity = 0;

        Part(int number, int sign, int field, boolean barred, int kind, long[] words) {
            this.number = number;
            this.sign = sign;
            this.field = field;
            this.barred = barred;
            this.kind = kind;
            this.words = words;
        }

        boolean isLookedForIn(int someField) {
            return kind != QUESTION && (field == EITHER_FIELD || field == someField);
        }

        /** The first one that is not small. */
        long firstWord() {
            for (int i = 0; i < words.length; i++) {
                if (words[i] != NO_WORD) {
                    return words[i];
                }
            }
            return NO_WORD;
        }
    }

    /** A question, or one in it; and whether it finds the text that is looked at, told by its parts one by one. */
    private static final class Question {
        final ArrayList<Part> parts = new ArrayList<>();
        boolean hasPlus = false;
        boolean isRefused = false;
        boolean isTouched = false;
        int weight = 0;

        void forgetText() {
            hasPlus = false;
            isRefused = false;
            isTouched = false;
            weight = 0;
        }

        void count(int sign, boolean isIn, int partWeight) {
            if (sign == '+') {
                hasPlus = true;
                isRefused = isRefused || !isIn;
            } else if (sign == '-') {
                isRefused = isRefused || isIn;
            } else {
                isTouched = isTouched || isIn;
            }
            weight += partWeight;
        }

        boolean finds() {
            return !isRefused && (hasPlus || isTouched);
        }

        int weightIfFinds() {
            return finds() ? Fits.capped(weight) : 0;
        }
    }

    /** Reads a question token by token: a token that its state does not take is the error. */
    private static final class QuestionReader {
        private static final int END_TOKEN = 0;
        private static final int RUN_TOKEN = 1;
        private static final int NO_TOKEN = 2;

        private static final int AT_START = 0;
        private static final int BEHIND_SIGN = 1;
        private static final int BEHIND_FIELD = 2;
        private static final int BEHIND_FIELD_NAME = 3;
        private static final int IN_NEW_PHRASE = 4;
        private static final int IN_PHRASE = 5;
        private static final int BEHIND_TILDE = 6;
        private static final int BEHIND_CARET = 7;
        /** From here on a part is whole, though more of it may come. */
        private static final int BEHIND_RUN = 8;
        private static final int BEHIND_PHRASE = 9;
        private static final int BEHIND_UNIT = 10;
        private static final int BEHIND_PART = 11;

        final long[] phrase = new long[MOST_TOKENS];
        int phraseRuns = 0;
        /** The parts whose ( is open; the lowest one stands for the asked question itself. */
        final ArrayList<Part> open = new ArrayList<>();
        final Part outermost = new Part(0, NO_SIGN, EITHER_FIELD, false, Part.QUESTION, new long[0]);
        final Question noQuestion = new Question();
        ArrayList<Question> draft = new ArrayList<>();
        int partCount = 0;
        Part latest = outermost;
        int at = 0;
        int start = 0;
        int token = END_TOKEN;
        /** That of the token, if it is a run. */
        long word = NO_WORD;
        int state = AT_START;
        int sign = NO_SIGN;
        int ownField = EITHER_FIELD;

        int read(Tape tape) {
            draft = new ArrayList<>();
            draft.add(new Question());
            partCount = 0;
            open.clear();
            open.add(outermost);
            at = 0;
            state = AT_START;
            for (int n = 0; n <= MOST_TOKENS; n++) {
                nextToken(tape);
                boolean tooMany = n == MOST_TOKENS && token != END_TOKEN;
                if (tooMany || !takes(tape)) {
                    return start;
                }
                if (token == END_TOKEN) {
                    return NO_ERROR;
                }
            }
            return start;
        }

        private void nextToken(Tape tape) {
            skipBlanks(tape);
            start = at;
            int b = tape.at(start);
            if (b == NO_BYTE) {
                token = END_TOKEN;
            } else if (Words.signOf(b) != 0) {
                tape.seekRun(start, tape.length);
                at = tape.runEnd;
                token = tape.runBytes() > MOST_RUN_BYTES ? NO_TOKEN : RUN_TOKEN;
                word = tape.isRunSmall() ? NO_WORD : tape.runWord();
            } else {
                at = start + 1;
                token = isTokenSign(b) ? b : NO_TOKEN;
            }
        }

        private void skipBlanks(Tape tape) {
            while (at < tape.length && tape.at(at) == BLANK) {
                at++;
            }
        }

        private static boolean isTokenSign(int b) {
            return b == '+' || b == '-' || b == '"' || b == '*' || b == '~' || b == '^' || b == ':'
                || b == '(' || b == ')';
        }

        private boolean takes(Tape tape) {
            switch (token) {
                case RUN_TOKEN:
                    return takesRun(tape);
                case '+':
                case '-':
                    return takesSign();
                case '"':
                    return takesQuote();
                case '*':
                    return takesStar();
                case '~':
                    return moves(state == BEHIND_PHRASE, BEHIND_TILDE);
                case '^':
                    return moves(isPartWhole() && state != BEHIND_PART, BEHIND_CARET);
                case ':':
                    return moves(state == BEHIND_FIELD_NAME, BEHIND_FIELD);
                case '(':
                    return takesOpening();
                case ')':
                    return takesClosing();
                case END_TOKEN:
                    return isPartWhole() && open.size() == 1;
                default:
                    return false;
            }
        }

        private boolean moves(boolean fitting, int next) {
            if (fitting) {
                state = next;
            }
            return fitting;
        }

        private boolean isPartWhole() {
            return state >= BEHIND_RUN;
        }

        private boolean canPartBegin() {
            return state == AT_START || isPartWhole();
        }

        private boolean canCoreBegin() {
            return canPartBegin() || state == BEHIND_SIGN || state == BEHIND_FIELD;
        }

        private boolean takesSign() {
            if (!canPartBegin()) {
                return false;
            }
            sign = token;
            ownField = EITHER_FIELD;
            state = BEHIND_SIGN;
            return true;
        }

        private void beginCore() {
            if (canPartBegin()) {
                sign = NO_SIGN;
                ownField = EITHER_FIELD;
            }
        }

        private boolean takesRun(Tape tape) {
            if (state == IN_NEW_PHRASE || state == IN_PHRASE) {
                return takesPhraseRun();
            }
            if (state == BEHIND_TILDE || state == BEHIND_CARET) {
                return takesNumber(tape);
            }
            if (!canCoreBegin()) {
                return false;
            }
            beginCore();
            if (ownField == EITHER_FIELD && namedField(tape) != EITHER_FIELD && isColonNext(tape)) {
                ownField = namedField(tape);
                state = BEHIND_FIELD_NAME;
                return true;
            }
            long[] words = {word};
            appendPart(Part.RUN, words);
            latest.beginning = tape.runUnshortened();
            latest.beginningBytes = tape.runBytes();
            state = BEHIND_RUN;
            return true;
        }

        private static int namedField(Tape tape) {
            if (tape.isRun("title")) {
                return TITLE;
            }
            return tape.isRun("body") ? BODY : EITHER_FIELD;
        }

        private boolean isColonNext(Tape tape) {
            skipBlanks(tape);
            return tape.at(at) == ':';
        }

        private boolean takesPhraseRun() {
            if (phraseRuns < phrase.length) {
                phrase[phraseRuns] = word;
                phraseRuns++;
            }
            state = IN_PHRASE;
            return true;
        }

        private boolean takesNumber(Tape tape) {
            int value = 0;
            int size = at - start;
            for (int k = 0; k < size; k++) {
                int digit = tape.at(start + k) - '0';
                if (size > 2 || digit < 0 || digit > 9) {
                    return false;
                }
                value = value * 10 + digit;
            }
            if (state == BEHIND_TILDE) {
                latest.looseness = value;
                state = BEHIND_UNIT;
            } else {
                latest.factor = value;
                state = BEHIND_PART;
            }
            return true;
        }

        private boolean takesQuote() {
            if (state == IN_PHRASE) {
                appendPhrase();
                state = BEHIND_PHRASE;
                return true;
            }
            if (!canCoreBegin()) {
                return false;
            }
            beginCore();
            phraseRuns = 0;
            state = IN_NEW_PHRASE;
            return true;
        }

        private void appendPhrase() {
            appendPart(Part.PHRASE, Arrays.copyOf(phrase, phraseRuns));
            int big = 0;
            for (int i = 0; i < latest.words.length; i++) {
                if (latest.words[i] != NO_WORD) {
                    big++;
                }
            }
            // Such a phrase fits where its one big run does, not where the phrase would begin.
            if (big < 2) {
                latest.kind = Part.RUN;
            }
        }

        private boolean takesStar() {
            if (state != BEHIND_RUN) {
                return false;
            }
            latest.kind = Part.BEGINNING;
            state = BEHIND_UNIT;
            return true;
        }

        private boolean takesOpening() {
            if (!canCoreBegin() || open.size() > MOST_OPEN) {
                return false;
            }
            beginCore();
            appendPart(Part.QUESTION, new long[0]);
            latest.inner = draft.size();
            draft.add(new Question());
            open.add(latest);
            state = AT_START;
            return true;
        }

        private boolean takesClosing() {
            if (!isPartWhole() || open.size() < 2) {
                return false;
            }
            latest = open.remove(open.size() - 1);
            state = BEHIND_UNIT;
            return true;
        }

        private void appendPart(int kind, long[] words) {
            Part around = open.isEmpty() ? outermost : open.get(open.size() - 1);
            int field = ownField == EITHER_FIELD ? around.field : ownField;
            boolean barred = around.barred || sign == '-';
            latest = new Part(partCount, sign, field, barred, kind, words);
            partCount++;
            if (around.inner < draft.size()) {
                draft.get(around.inner).parts.add(latest);
            }
        }
    }

    /** Finds the places of a field at which a part fits. */
    private static final class Match {
        final long[] wanted = new long[MOST_TOKENS];
        final int[] lacking = new int[MOST_TOKENS];
        int wantedCount = 0;
        int unmet = 0;
        int times = 0;
        int first = NOWHERE;

        void forget() {
            times = 0;
            first = NOWHERE;
        }

        void look(Part part, long[] row) {
            switch (part.kind) {
                case Part.RUN:
                    lookForWord(part.firstWord(), row);
                    break;
                case Part.BEGINNING:
                    lookForBeginning(part, row);
                    break;
                case Part.PHRASE:
                    if (part.looseness == 0) {
                        lookForPhrase(part.words, row);
                    } else {
                        wantAll(part.words);
                        lookForNearWords(part, row);
                    }
                    break;
                default:
                    break;
            }
        }

        private void hit(int place) {
            if (times == 0) {
                first = place;
            }
            times++;
        }

        private void lookForWord(long word, long[] row) {
            for (int place = 0; place < row.length; place++) {
                if (row[place] == word) {
                    hit(place);
                }
            }
        }

        private void lookForBeginning(Part part, long[] row) {
            for (int place = 0; place < row.length; place++) {
                if (Words.beginsWith(row[place], part.beginning, part.beginningBytes)) {
                    hit(place);
                }
            }
        }

        private void lookForPhrase(long[] words, long[] row) {
            for (int place = 0; place < row.length; place++) {
                if (standsAt(place, words, row)) {
                    hit(place);
                }
            }
        }

        private static boolean standsAt(int place, long[] words, long[] row) {
            for (int i = 0; i < words.length; i++) {
                boolean isThere = place + i < row.length && row[place + i] == words[i];
                if (words[i] != NO_WORD && !isThere) {
                    return false;
                }
            }
            return true;
        }

        /**
         * A place fits if a window of the greatest width holds it and each word as often as the phrase
         * does: which of the places of a word is whose never matters then. The window moves on by one
         * place at a time, so each place has to be judged only once, in the first whole window around it.
         */
        private void lookForNearWords(Part part, long[] row) {
            int width = part.looseness + part.words.length - 1;
            long leading = part.firstWord();
            int judged = 0;
            for (int last = 0; last < row.length; last++) {
                int before = last - width - 1;
                count(row[last], -1);
                if (before >= 0) {
                    count(row[before], 1);
                }
                if (unmet == 0) {
                    for (int place = Math.max(judged, before + 1); place <= last; place++) {
                        if (row[place] == leading) {
                            hit(place);
                        }
                    }
                    judged = last + 1;
                }
            }
        }

        private void wantAll(long[] words) {
            wantedCount = 0;
            unmet = 0;
            for (int i = 0; i < words.length; i++) {
                if (words[i] != NO_WORD) {
                    want(words[i]);
                }
            }
        }

        private void want(long word) {
            int k = wantedPlace(word);
            if (k == NOWHERE && wantedCount < wanted.length) {
                k = wantedCount;
                wanted[k] = word;
                lacking[k] = 0;
                wantedCount++;
                unmet++;
            }
            if (k != NOWHERE) {
                lacking[k]++;
            }
        }

        private int wantedPlace(long word) {
            for (int k = 0; k < wantedCount && k < wanted.length; k++) {
                if (wanted[k] == word) {
                    return k;
                }
            }
            return NOWHERE;
        }

        private void count(long word, int change) {
            int k = wantedPlace(word);
            if (k == NOWHERE) {
                return;
            }
            boolean wasMet = lacking[k] <= 0;
            lacking[k] += change;
            boolean isMet = lacking[k] <= 0;
            if (wasMet && !isMet) {
                unmet++;
            } else if (!wasMet && isMet) {
                unmet--;
            }
        }
    }

    /** How often and where first each part fits, in each text of the segments, in each field. */
    private static final class Fits {
        final int[] times = new int[MOST_TOKENS * MOST_TEXTS * FIELDS];
        final int[] firsts = new int[MOST_TOKENS * MOST_TEXTS * FIELDS];
        final int[] meanLengths = new int[FIELDS];
        final Match match = new Match();

        private static int slot(Part part, int text, int field) {
            return Findings.slot(part, text) * FIELDS + field;
        }

        void fill(ArrayList<Question> questions, ArrayList<Text> texts) {
            for (int field = 0; field < FIELDS; field++) {
                meanLengths[field] = meanLength(texts, field);
            }
            for (int q = 0; q < questions.size(); q++) {
                ArrayList<Part> parts = questions.get(q).parts;
                for (int i = 0; i < parts.size(); i++) {
                    Part part = parts.get(i);
                    part.titleRarity = rarityOf(texts.size(), fillPart(part, TITLE, texts));
                    part.bodyRarity = rarityOf(texts.size(), fillPart(part, BODY, texts));
                }
            }
        }

        private static int meanLength(ArrayList<Text> texts, int field) {
            if (texts.isEmpty()) {
                return 1;
            }
            int sum = 0;
            for (int i = 0; i < texts.size(); i++) {
                sum += texts.get(i).row(field).length;
            }
            return Math.max(1, sum / texts.size());
        }

        /** Answers in how many texts it fits. */
        private int fillPart(Part part, int field, ArrayList<Text> texts) {
            int holders = 0;
            for (int text = 0; text < texts.size() && text < MOST_TEXTS; text++) {
                match.forget();
                if (part.isLookedForIn(field)) {
                    match.look(part, texts.get(text).row(field));
                }
                times[slot(part, text, field)] = match.times;
                firsts[slot(part, text, field)] = match.first;
                holders += match.times > 0 ? 1 : 0;
            }
            return holders;
        }

        boolean isIn(Part part, int text) {
            return times[slot(part, text, TITLE)] > 0 || times[slot(part, text, BODY)] > 0;
        }

        int unitWeight(Part part, int textIndex, Text text) {
            int timesInTitle = times[slot(part, textIndex, TITLE)];
            int timesInBody = times[slot(part, textIndex, BODY)];
            int inTitle = fieldWeight(part.titleRarity, timesInTitle, text.title.length, meanLengths[TITLE]);
            int inBody = fieldWeight(part.bodyRarity, timesInBody, text.body.length, meanLengths[BODY]);
            return capped(2 * inTitle + inBody);
        }

        private static int fieldWeight(int rarity, int count, int length, int meanLength) {
            int divisor = 10 * count + 3 + 9 * length / Math.max(1, meanLength);
            return rarity * 22 * count / Math.max(1, divisor);
        }

        /** The first place at which any part fits that is in none with a minus. */
        int firstOfAll(ArrayList<Question> questions, int text, int field) {
            int least = NOWHERE;
            for (int q = 0; q < questions.size(); q++) {
                ArrayList<Part> parts = questions.get(q).parts;
                for (int i = 0; i < parts.size(); i++) {
                    Part part = parts.get(i);
                    int first = part.barred ? NOWHERE : firsts[slot(part, text, field)];
                    if (first != NOWHERE && (least == NOWHERE || first < least)) {
                        least = first;
                    }
                }
            }
            return least;
        }

        static int rarityOf(int textCount, int holderCount) {
            return logarithm(16 * (textCount + 1) / Math.max(1, holderCount + 1));
        }

        private static int logarithm(int x) {
            int k = 0;
            while (k < 30 && x >> (k + 1) > 0) {
                k++;
            }
            return 16 * k + 16 * x / (1 << k) - 16;
        }

        static int capped(int weight) {
            return Math.min(weight, MOST_WEIGHT);
        }
    }

    /** What the question finds, in order, and what each part has to do with each text. */
    private static final class Findings {
        final Fits fits = new Fits();
        final boolean[] partIsIn = new boolean[MOST_TOKENS * MOST_TEXTS];
        final int[] partWeights = new int[MOST_TOKENS * MOST_TEXTS];
        final int[] weights = new int[MOST_TEXTS];
        final int[] order = new int[MOST_TEXTS];
        int count = 0;

        /** The tables have room for each part of a question and each text; for all else there is slot 0. */
        static int slot(Part part, int text) {
            boolean isHeld = part.number >= 0 && part.number < MOST_TOKENS && text >= 0 && text < MOST_TEXTS;
            return isHeld ? part.number * MOST_TEXTS + text : 0;
        }

        int textAt(int place) {
            return place >= 0 && place < count && place < order.length ? order[place] : NOWHERE;
        }

        int weightAt(int place) {
            int text = textAt(place);
            return text == NOWHERE ? 0 : weights[text];
        }

        int weightOfPart(Part part, int text) {
            return partWeights[slot(part, text)];
        }

        void refresh(ArrayList<Question> questions, ArrayList<Text> texts) {
            count = 0;
            if (questions.isEmpty()) {
                return;
            }
            fits.fill(questions, texts);
            for (int text = 0; text < texts.size() && text < MOST_TEXTS; text++) {
                if (!texts.get(text).marked) {
                    // From behind: a question in another one is judged ahead of the part that it is there.
                    for (int q = questions.size() - 1; q >= 0; q--) {
                        judge(questions.get(q), questions, text, texts.get(text));
                    }
                    weights[text] = questions.get(0).weightIfFinds();
                    if (questions.get(0).finds()) {
                        putInOrder(text, texts);
                    }
                }
            }
        }

        private void judge(Question question, ArrayList<Question> questions, int textIndex, Text text) {
            question.forgetText();
            for (int i = 0; i < question.parts.size(); i++) {
                Part part = question.parts.get(i);
                boolean isIn = fits.isIn(part, textIndex);
                int weight = fits.unitWeight(part, textIndex, text);
                if (part.kind == Part.QUESTION && part.inner < questions.size()) {
                    isIn = questions.get(part.inner).finds();
                    weight = questions.get(part.inner).weightIfFinds();
                }
                weight = part.sign == '-' ? 0 : Fits.capped(weight * part.factor);
                partIsIn[slot(part, textIndex)] = isIn;
                partWeights[slot(part, textIndex)] = weight;
                question.count(part.sign, isIn, weight);
            }
        }

        private void putInOrder(int text, ArrayList<Text> texts) {
            if (count >= order.length) {
                return;
            }
            int place = count;
            while (place > 0 && isAhead(text, order[place - 1], texts)) {
                order[place] = order[place - 1];
                place--;
            }
            order[place] = text;
            count++;
        }

        private boolean isAhead(int text, int other, ArrayList<Text> texts) {
            if (weights[text] != weights[other]) {
                return weights[text] > weights[other];
            }
            Text a = texts.get(text);
            Text b = texts.get(other);
            return a.rank != b.rank ? a.rank > b.rank : a.key < b.key;
        }

        int countWithout(int without, Question question, ArrayList<Text> texts) {
            int finds = 0;
            for (int text = 0; text < texts.size() && text < MOST_TEXTS; text++) {
                if (!texts.get(text).marked && isFoundWithout(without, question, text)) {
                    finds++;
                }
            }
            return finds;
        }

        private boolean isFoundWithout(int without, Question question, int text) {
            question.forgetText();
            for (int i = 0; i < question.parts.size(); i++) {
                if (i != without) {
                    Part part = question.parts.get(i);
                    question.count(part.sign, partIsIn[slot(part, text)], 0);
                }
            }
            return question.finds();
        }
    }
}
