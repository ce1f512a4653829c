import java.nio.charset.StandardCharsets;

/** Compares answers with those that are due, and puts texts onto a tape. */
final class Check {
    private int right = 0;
    private int wrong = 0;

    void due(String what, long got, long want) {
        if (got == want) {
            right++;
            return;
        }
        wrong++;
        if (wrong <= 50) {
            System.out.println(what + " answered " + got + ", due is " + want);
        }
    }

    void due(String what, boolean got, boolean want) {
        due(what, got ? 1 : 0, want ? 1 : 0);
    }

    int wrong() {
        return wrong;
    }

    /** Ends the run of a test: with exit code 1 if an answer was wrong. */
    void finish(String name) {
        System.out.println(name + ": " + right + " answers right, " + wrong + " wrong");
        if (wrong != 0) {
            System.exit(1);
        }
    }

    /** Feeds the text, of bytes 0 to 255, in twenties and takes back what fills up the last of them. */
    static void put(DimShelf shelf, String text) {
        byte[] bytes = text.getBytes(StandardCharsets.ISO_8859_1);
        int length = (bytes.length + 19) / 20 * 20;
        int spill = Math.max(0, shelf.count(6) + length - 4000);
        if (spill > 0 && spill < 20 && length - spill >= bytes.length) {
            throw new IllegalArgumentException("a tape of 4,000 bytes takes twenties alone");
        }
        for (int i = 0; i < length; i += 20) {
            shelf.feed(word(bytes, i), word(bytes, i + 4), word(bytes, i + 8), word(bytes, i + 12), word(bytes, i + 16));
        }
        shelf.back(length - bytes.length);
    }

    static int read(DimShelf shelf, String text) {
        put(shelf, text);
        return shelf.read();
    }

    static int learn(DimShelf shelf, String text) {
        put(shelf, text);
        return shelf.learn();
    }

    static int ask(DimShelf shelf, String text) {
        put(shelf, text);
        return shelf.ask();
    }

    /** A shelf of a text without a fault. */
    DimShelf shelf(String text) {
        DimShelf shelf = new DimShelf();
        due("read of " + text, read(shelf, text), 0);
        return shelf;
    }

    private static int word(byte[] bytes, int at) {
        int word = 0;
        for (int i = at; i < at + 4; i++) {
            word = word << 8 | (i < bytes.length ? bytes[i] & 255 : 32);
        }
        return word;
    }
}
