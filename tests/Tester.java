import java.math.BigInteger;

/** What the tests share: a tape fed by texts, and dues that are counted when they are not met. */
final class Tester {
    static final String NOTHING = "nothing";
    static final String ISE = "IllegalStateException";
    static final String IAE = "IllegalArgumentException";
    static final String IOOBE = "IndexOutOfBoundsException";
    static final int MIN = Integer.MIN_VALUE;
    static final int MAX = Integer.MAX_VALUE;
    private int wrong = 0;
    private int asked = 0;
    private String test = "";

    interface Call {
        void run();
    }

    /** An index of one segment, with these texts under the keys from 0 on. */
    static BeaconIndex with(String... texts) {
        BeaconIndex index = new BeaconIndex();
        for (int key = 0; key < texts.length; key++) {
            add(index, key, texts[key]);
        }
        index.commit();
        return index;
    }

    /** A segment of texts with a word each, under these keys. */
    static void segment(BeaconIndex index, int from, int count) {
        for (int key = from; key < from + count; key++) {
            add(index, key, "w" + key);
        }
        index.commit();
    }

    static void feed(BeaconIndex index, String text) {
        byte[] bytes = new byte[(text.length() + 19) / 20 * 20];
        for (int k = 0; k < bytes.length; k++) {
            bytes[k] = (byte) (k < text.length() ? text.charAt(k) : 32);
        }
        for (int k = 0; k < bytes.length; k += 20) {
            index.feed(number(bytes, k), number(bytes, k + 4), number(bytes, k + 8), number(bytes, k + 12),
                number(bytes, k + 16));
        }
        index.trim(text.length());
    }

    private static int number(byte[] bytes, int k) {
        return (bytes[k] & 255) << 24 | (bytes[k + 1] & 255) << 16 | (bytes[k + 2] & 255) << 8 | bytes[k + 3] & 255;
    }

    static int add(BeaconIndex index, int key, String text) {
        return add(index, key, 0, 0, text);
    }

    static int add(BeaconIndex index, int key, int shelf, int rank, String text) {
        feed(index, text);
        return index.add(key, shelf, rank);
    }

    static int ask(BeaconIndex index, String question) {
        feed(index, question);
        return index.ask();
    }

    static String takeWord(BeaconIndex index, String text) {
        feed(index, text);
        index.takeWord();
        return word(index);
    }

    static String word(BeaconIndex index) {
        StringBuilder word = new StringBuilder();
        for (int k = 0; k < 13; k++) {
            try {
                word.append((char) index.wordByte(k));
            } catch (IndexOutOfBoundsException e) {
                return word.toString();
            }
        }
        return word.toString();
    }

    /** How many bytes are on the tape, found out without changing it. */
    static int tapeBytes(BeaconIndex index) {
        try {
            int bytes = index.feed(0, 0, 0, 0, 0) - 20;
            return index.trim(bytes);
        } catch (IllegalStateException e) {
            int bytes = 400;
            while (!thrownByTrim(index, bytes).equals(NOTHING)) {
                bytes--;
            }
            return bytes;
        }
    }

    private static String thrownByTrim(BeaconIndex index, int bytes) {
        return thrown(() -> index.trim(bytes));
    }

    /** The keys of a segment, in order, each with a blank behind it. */
    static String keysIn(BeaconIndex index, int segment) {
        StringBuilder keys = new StringBuilder();
        for (int text = 0; text < index.textsIn(segment); text++) {
            keys.append(index.keyAt(segment, text)).append(' ');
        }
        return keys.toString();
    }

    /** What the digest makes of these values, told by numbers without an end; 64 bits of them are kept. */
    static BigInteger folded(int... values) {
        BigInteger d = BigInteger.valueOf(2447);
        for (int v : values) {
            d = d.multiply(BigInteger.valueOf(31)).add(BigInteger.valueOf(v));
        }
        return d;
    }

    /** The keys that are found, in order, each with a blank behind it. */
    static String keys(BeaconIndex index) {
        StringBuilder keys = new StringBuilder();
        for (int place = 0; place < index.found(); place++) {
            keys.append(index.keyFound(place)).append(' ');
        }
        return keys.toString();
    }

    static String thrown(Call call) {
        try {
            call.run();
        } catch (RuntimeException e) {
            return e.getClass().getSimpleName();
        }
        return NOTHING;
    }

    /** What is told from now on is told with this ahead. */
    void begin(String name) {
        test = name;
    }

    void due(String what, Object got, Object want) {
        asked++;
        if (!got.equals(want)) {
            wrong++;
            System.out.println(test + what + " answered " + got + ", due is " + want);
        }
    }

    /** The call has to throw exactly this, and to change nothing that the digest or the tape would tell. */
    void throwing(String what, BeaconIndex index, String exception, Call call) {
        long before = index.digest();
        due(what, thrown(call), exception);
        due(what + ", digest behind it", index.digest(), before);
    }

    void end() {
        System.out.println(wrong == 0 ? asked + " answers are as due" : wrong + " answers are not as due");
        if (wrong != 0) {
            System.exit(1);
        }
    }
}
