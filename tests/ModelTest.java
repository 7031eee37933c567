import java.util.Random;

/** Many long runs of calls, made up from fixed seeds, on BeaconIndex and on Model: all answers have to be the same. */
public final class ModelTest {
    private static final String[] WORDS = {
        "sea", "seas", "storm", "storms", "The", "of", "a", "in", "lantern", "harbour", "Harbours", "keeper", "bus",
        "glass", "glasses", "flies", "dies", "singing", "sing", "sting", "wanted", "need", "thes", "ands", "title",
        "body", "s", "se", "st", "x", "y", "7", "42", "abcdefghijklm", "abcdefghijkling", "abcdefghijkl", "bosses",
        "sses", "toed", "ABcdEFghIJklMNopQRst", "aes", "night", "nights", "nihgt", "tsorm", "kepeer"};
    private static final String[] FEW = {"sea", "storm", "the", "bus", "keeper", "seas"};
    private static final String[] GAPS = {" ", " ", " ", "  ", ", ", "-", ".", "\u00e9", "'", "\n"};
    private static final String[] SIGNS = {"+", "-", "\"", "*", "~", "^", ":", "(", ")", "|", "#", "title:", "~3",
        "^2", "body", "abcdefghijklmnopqrstu", "100", "1", "05", "a", "the"};

    private final Random random;
    private final BeaconIndex index = new BeaconIndex();
    private final Model model = new Model();
    private final StringBuilder log = new StringBuilder();
    private final boolean isNarrow;
    private final boolean isWild;
    private final boolean isDense;
    private final int keys;
    private int calls = 0;

    private ModelTest(long seed) {
        random = new Random(seed);
        isNarrow = random.nextBoolean();
        isWild = random.nextInt(5) == 0;
        isDense = random.nextInt(4) == 0;
        keys = random.nextInt(4) == 0 ? 12 : 100;
    }

    public static void main(String[] args) {
        int runs = args.length > 0 ? Integer.parseInt(args[0]) : 300;
        for (int seed = 0; seed < runs; seed++) {
            ModelTest run = new ModelTest(seed);
            try {
                run.go(seed % 3);
            } catch (IllegalStateException e) {
                System.out.println("seed " + seed + ": " + e.getMessage() + run.log);
                System.exit(1);
            }
        }
        System.out.println(runs + " runs are as the model's");
    }

    private void go(int kind) {
        while (calls < 480) {
            int dice = random.nextInt(100);
            if (dice < (kind == 0 ? 45 : 25)) {
                textCalls(kind);
            } else if (dice < 50) {
                feedText(question());
                compare("ask()", BeaconIndex::ask, Model::ask);
                if (random.nextInt(3) == 0) {
                    compare("digest()", BeaconIndex::digest, Model::digest);
                }
            } else if (dice < 60) {
                feedText(word());
                compare("takeWord()", BeaconIndex::takeWord, Model::takeWord);
            } else if (dice < 65) {
                compare("nearest()", BeaconIndex::nearest, Model::nearest);
            } else if (dice < 70) {
                compare("digest()", BeaconIndex::digest, Model::digest);
            } else if (dice < 85) {
                segmentQuestion();
            } else {
                findingQuestion();
            }
        }
        compare("digest()", BeaconIndex::digest, Model::digest);
    }

    private interface OnIndex {
        Object call(BeaconIndex index);
    }

    private interface OnModel {
        Object call(Model model);
    }

    private void compare(String call, OnIndex onIndex, OnModel onModel) {
        calls++;
        Object want;
        Object got;
        try {
            want = onModel.call(model);
        } catch (RuntimeException e) {
            want = "throws." + e.getClass().getSimpleName();
        }
        try {
            got = onIndex.call(index);
        } catch (RuntimeException e) {
            got = "throws." + e.getClass().getSimpleName();
        }
        log.append('\n').append(call).append(" -> ").append(got);
        if (!got.equals(want)) {
            throw new IllegalStateException(call + " answered " + got + ", the model " + want);
        }
    }

    private void feedText(String text) {
        String cut = text.substring(0, Math.min(400, text.length()));
        log.append("\nfeeding ").append(cut);
        int before = model.tape.length();
        for (int k = 0; k < cut.length(); k += 20) {
            int[] numbers = new int[5];
            for (int b = 0; b < 20; b++) {
                int c = k + b < cut.length() ? cut.charAt(k + b) : random.nextInt(256);
                numbers[b / 4] = numbers[b / 4] << 8 | c;
            }
            compare("feed", i -> i.feed(numbers[0], numbers[1], numbers[2], numbers[3], numbers[4]),
                m -> m.feed(numbers));
        }
        int length = before + cut.length();
        if (random.nextInt(40) > 0) {
            compare("trim(" + length + ")", i -> i.trim(length), m -> m.trim(length));
        }
    }

    private void textCalls(int kind) {
        int key = random.nextInt(50) == 0 ? (random.nextBoolean() ? -1 : 100) : random.nextInt(keys);
        int dice = random.nextInt(kind == 0 ? 24 : 12);
        if (dice == 0) {
            compare("takeOut(" + key + ")", i -> i.takeOut(key), m -> m.takeOut(key));
        } else if (dice == 1 || dice == 2 && kind == 1) {
            compare("commit()", BeaconIndex::commit, Model::commit);
        } else if (dice == 3 && random.nextInt(3) == 0) {
            compare("mergeAll()", BeaconIndex::mergeAll, Model::mergeAll);
        } else {
            int shelf = random.nextInt(60) == 0 ? 8 : random.nextInt(8);
            int rank = random.nextInt(60) == 0 ? 1000 : random.nextInt(3);
            if (random.nextInt(30) > 0) {
                feedText(text());
            }
            compare("add(" + key + ", " + shelf + ", " + rank + ")", i -> i.add(key, shelf, rank),
                m -> m.add(key, shelf, rank));
        }
    }

    private String word() {
        if (random.nextInt(isWild ? 3 : 12) == 0) {
            StringBuilder word = new StringBuilder();
            for (int k = random.nextInt(14); k >= 0; k--) {
                word.append("aest0Ybdngi".charAt(random.nextInt(11)));
            }
            return word.toString();
        }
        String[] words = isNarrow ? FEW : WORDS;
        return words[random.nextInt(words.length)];
    }

    private String text() {
        if (random.nextInt(isDense ? 4 : 40) == 0) {
            return denseText();
        }
        StringBuilder text = new StringBuilder();
        int size = random.nextInt(random.nextInt(10) == 0 ? 40 : 9);
        for (int k = 0; k < size; k++) {
            text.append(word()).append(random.nextInt(6) == 0 ? "|" : GAPS[random.nextInt(GAPS.length)]);
        }
        return text.toString();
    }

    /** As many words as the tape can hold: 200 of one byte, or fewer. */
    private String denseText() {
        StringBuilder text = new StringBuilder();
        boolean isShort = random.nextBoolean();
        while (text.length() < 400) {
            text.append(isShort ? "" + "abstxyAS17".charAt(random.nextInt(10)) : word());
            text.append(random.nextInt(90) == 0 ? '|' : ' ');
        }
        return text.toString();
    }

    private String question() {
        StringBuilder text = new StringBuilder();
        switch (random.nextInt(10)) {
            case 0 -> crowd(text);
            case 1 -> weighDown(text);
            case 2 -> scatter(text);
            default -> parts(text, 0);
        }
        if (random.nextInt(4) == 0) {
            int at = random.nextInt(text.length() + 1);
            text.insert(at, SIGNS[random.nextInt(SIGNS.length)]);
        }
        if (random.nextInt(12) == 0) {
            text.deleteCharAt(random.nextInt(text.length()));
        }
        return text.toString();
    }

    /** A question of about as many tokens as are allowed. */
    private void crowd(StringBuilder text) {
        int tokens = 36 + random.nextInt(7);
        while (tokens > 0) {
            int dice = tokens < 6 ? 5 : random.nextInt(6);
            switch (dice) {
                case 0 -> text.append("-(").append(word()).append(") ");
                case 1 -> text.append("title:").append(word()).append("* ");
                case 2 -> text.append('"').append(word()).append(' ').append(word()).append("\"~7 ");
                case 3 -> text.append(word()).append("^9 ");
                default -> text.append(word()).append(' ');
            }
            tokens -= dice < 2 ? 4 : dice == 2 ? 6 : dice == 3 ? 3 : 1;
        }
    }

    /** Weights times weights, so that they come near to the greatest one there is, and above it. */
    private void weighDown(StringBuilder text) {
        int open = random.nextInt(5);
        for (int k = 0; k < open; k++) {
            text.append('(');
        }
        text.append("s*^").append(90 + random.nextInt(10)).append(' ').append(word());
        for (int k = 0; k < open; k++) {
            text.append(")^").append(random.nextInt(3) == 0 ? random.nextInt(100) : random.nextInt(12));
        }
        text.append(" t*^").append(random.nextInt(100));
    }

    /** Signs and short runs without any order. */
    private void scatter(StringBuilder text) {
        for (int k = random.nextInt(12); k >= 0; k--) {
            boolean isNamed = random.nextInt(9) == 0;
            text.append(isNamed ? "Title" : "" + "+-\"*~^:() sx7".charAt(random.nextInt(13)));
        }
    }

    private void parts(StringBuilder text, int open) {
        for (int k = random.nextInt(random.nextInt(20) == 0 ? 14 : 4); k >= 0; k--) {
            text.append(random.nextInt(5) == 0 ? " +" : random.nextInt(5) == 0 ? " -" : " ");
            text.append(random.nextInt(4) > 0 ? "" : random.nextBoolean() ? "title:" : "Body : ");
            core(text, open);
            text.append(random.nextInt(4) > 0 ? "" : "^" + random.nextInt(random.nextBoolean() ? 4 : 100));
        }
    }

    private void core(StringBuilder text, int open) {
        int dice = random.nextInt(10);
        if (dice < 2 && random.nextInt(open + 1) == 0 || open < 5 && dice == 2) {
            text.append('(');
            parts(text, open + 1);
            text.append(')');
        } else if (dice < 6) {
            text.append('"');
            for (int k = random.nextInt(4); k >= 0; k--) {
                text.append(word()).append(' ');
            }
            text.append('"');
            text.append(random.nextInt(5) < 2 ? "" : "~" + random.nextInt(random.nextBoolean() ? 4 : 100));
        } else {
            text.append(dice == 6 ? word().charAt(0) + "*" : word() + (dice == 7 ? "*" : ""));
        }
    }

    private void segmentQuestion() {
        int segment = random.nextInt(model.segments.size() + 2) - (random.nextInt(9) == 0 ? 1 : 0);
        int text = random.nextInt(14) - (random.nextInt(9) == 0 ? 1 : 0);
        int field = random.nextInt(12) == 0 ? random.nextInt(2) * 3 - 1 : random.nextInt(2);
        int key = random.nextInt(20) == 0 ? random.nextInt(2) * 101 - 1 : random.nextInt(keys);
        String at = "(" + segment + ", " + text + ", " + field + ", " + key + ")";
        switch (random.nextInt(17)) {
            case 0 -> compare("texts()", BeaconIndex::texts, Model::texts);
            case 1 -> compare("buffered()", BeaconIndex::buffered, m -> m.buffer.size());
            case 2 -> compare("segments()", BeaconIndex::segments, m -> m.segments.size());
            case 3 -> compare("merges()", BeaconIndex::merges, m -> m.merges);
            case 4 -> compare("textsIn" + at, i -> i.textsIn(segment), m -> m.textsIn(segment));
            case 5 -> compare("markedIn" + at, i -> i.markedIn(segment), m -> m.markedIn(segment));
            case 6 -> compare("levelOf" + at, i -> i.levelOf(segment), m -> m.levelOf(segment));
            case 7 -> compare("wordsIn" + at, i -> i.wordsIn(segment, field), m -> m.wordsIn(segment, field));
            case 8 -> compare("keyAt" + at, i -> i.keyAt(segment, text), m -> m.textAt(segment, text).key);
            case 9 -> compare("isMarked" + at, i -> i.isMarked(segment, text), m -> m.textAt(segment, text).marked);
            case 10 -> compare("lengthOf" + at, i -> i.lengthOf(segment, text, field),
                m -> m.lengthOf(segment, text, field));
            case 11 -> compare("segmentOf" + at, i -> i.segmentOf(key), m -> m.segmentOf(key));
            case 12 -> compare("shelfOf" + at, i -> i.shelfOf(key), m -> m.shelfOf(key));
            case 13 -> compare("wordByte" + at, i -> i.wordByte(text), m -> m.wordByte(text));
            case 14 -> compare("textsWith" + at, i -> i.textsWith(field), m -> m.textsWith(field));
            case 15 -> compare("timesIn" + at, i -> i.timesIn(key, field), m -> m.timesIn(key, field));
            default -> compare("rarity" + at, i -> i.rarity(field), m -> m.rarity(field));
        }
    }

    private int someKey() {
        int found = model.query == null ? 0 : model.found();
        return found > 0 && random.nextInt(3) > 0 ? model.keyFound(random.nextInt(found)) : random.nextInt(keys);
    }

    private void findingQuestion() {
        int place = random.nextInt(5) - (random.nextInt(9) == 0 ? 1 : 0);
        int key = random.nextInt(20) == 0 ? random.nextInt(2) * 101 - 1 : someKey();
        int field = random.nextInt(12) == 0 ? random.nextInt(2) * 3 - 1 : random.nextInt(2);
        int shelf = random.nextInt(12) == 0 ? random.nextInt(2) * 9 - 1 : random.nextInt(8);
        String at = "(" + place + ", " + key + ", " + field + ", " + shelf + ")";
        switch (random.nextInt(10)) {
            case 0 -> compare("parts()", BeaconIndex::parts, Model::parts);
            case 1 -> compare("found()", BeaconIndex::found, Model::found);
            case 2 -> compare("keyFound" + at, i -> i.keyFound(place), m -> m.keyFound(place));
            case 3 -> compare("weightFound" + at, i -> i.weightFound(place), m -> m.weightFound(place));
            case 4 -> compare("foundOn" + at, i -> i.foundOn(shelf), m -> m.foundOn(shelf));
            case 5 -> compare("placeOf" + at, i -> i.placeOf(key), m -> m.placeOf(key));
            case 6 -> compare("partWeight" + at, i -> i.partWeight(key, place), m -> m.partWeight(key, place));
            case 7 -> compare("foundWithout" + at, i -> i.foundWithout(place), m -> m.foundWithout(place));
            case 8 -> compare("firstFit" + at, i -> i.firstFit(key, field), m -> m.firstFit(key, field));
            default -> compare("meanWeight()", BeaconIndex::meanWeight, Model::meanWeight);
        }
    }
}
