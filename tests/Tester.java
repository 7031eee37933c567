/** What the tests share: a tape fed by texts, and dues that are counted when they are not met. */
final class Tester {
    static final String NOTHING = "nothing";
    private int wrong = 0;
    private int asked = 0;

    interface Call {
        void run();
    }

    static void feed(BeaconIndex index, String text) {
        byte[] bytes = new byte[(text.length() + 19) / 20 * 20];
        for (int k = 0; k < bytes.length; k++) {
            bytes[k] = (byte) (k < text.length() ? text.charAt(k) : 32);
        }
        for (int k = 0; k < bytes.length; k += 20) {
            index.feed(number(bytes, k), number(bytes, k + 4), number(bytes, k + 8), number(bytes, k + 12),
                number(bytes, k + 16));
        }
        index.trim(text.length());
    }

    private static int number(byte[] bytes, int k) {
        return (bytes[k] & 255) << 24 | (bytes[k + 1] & 255) << 16 | (bytes[k + 2] & 255) << 8 | bytes[k + 3] & 255;
    }

    static int add(BeaconIndex index, int key, String text) {
        return add(index, key, 0, 0, text);
    }

    static int add(BeaconIndex index, int key, int shelf, int rank, String text) {
        feed(index, text);
        return index.add(key, shelf, rank);
    }

    static int ask(BeaconIndex index, String question) {
        feed(index, question);
        return index.ask();
    }

    static String takeWord(BeaconIndex index, String text) {
        feed(index, text);
        index.takeWord();
        return word(index);
    }

    static String word(BeaconIndex index) {
        StringBuilder word = new StringBuilder();
        for (int k = 0; k < 13; k++) {
            try {
                word.append((char) index.wordByte(k));
            } catch (IndexOutOfBoundsException e) {
                return word.toString();
            }
        }
        return word.toString();
    }

    /** The keys that are found, in order, each with a blank behind it. */
    static String keys(BeaconIndex index) {
        StringBuilder keys = new StringBuilder();
        for (int place = 0; place < index.found(); place++) {
            keys.append(index.keyFound(place)).append(' ');
        }
        return keys.toString();
    }

    static String thrown(Call call) {
        try {
            call.run();
        } catch (RuntimeException e) {
            return e.getClass().getSimpleName();
        }
        return NOTHING;
    }

    void due(String what, Object got, Object want) {
        asked++;
        if (!got.equals(want)) {
            wrong++;
            System.out.println(what + " answered " + got + ", due is " + want);
        }
    }

    /** The call has to throw exactly this, and to change nothing that the digest or the tape would tell. */
    void throwing(String what, BeaconIndex index, String exception, Call call) {
        long before = index.digest();
        due(what, thrown(call), exception);
        due(what + ", digest behind it", index.digest(), before);
    }

    void end() {
        System.out.println(wrong == 0 ? asked + " answers are as due" : wrong + " answers are not as due");
        if (wrong != 0) {
            System.exit(1);
        }
    }
}
