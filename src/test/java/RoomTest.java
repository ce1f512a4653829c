import java.lang.management.ManagementFactory;

/** All calls of one run live in one room: what the dearest of them make is made once and used again. */
public final class RoomTest {
    private static final Check CHECK = new Check();
    /* Far below the 7.3 million fields and elements that a run has, were each of them one byte. */
    private static final long MOST_BYTES = 2_000_000;
    /* What the machine may make by itself meanwhile: far less than one byte for each call that is looked at. */
    private static final long STRAY_BYTES = 1_000;
    private static final int SHELVES = 4;

    private static final com.sun.management.ThreadMXBean ROOM =
        (com.sun.management.ThreadMXBean) ManagementFactory.getThreadMXBean();

    public static void main(String[] args) {
        made();
        dearest();
        texts();
        faults();
        CHECK.finish("RoomTest");
    }

    /** How many bytes this thread has made; the call itself makes none once it has been used. */
    private static long made() {
        return ROOM.getCurrentThreadAllocatedBytes();
    }

    /** 1,024 WORLDS, TABLES of 30 rows that differ in most of them, answers of six COLUMNS. */
    private static String full() {
        StringBuilder text = new StringBuilder();
        for (int u = 0; u < 5; u++) {
            text.append("unknown u").append(u).append(":0..3;");
        }
        text.append("table t(a,b,c,d);table r(e,f);row r(?u0,?u1);");
        for (int i = 0; i < 30; i++) {
            text.append("row t(?u").append(i % 5).append(",?u").append(i / 5 % 5).append(",?u").append(i * 7 % 5);
            text.append(',').append(i).append(");");
        }
        text.append("answer x=t*r;answer g=(x-(x-(x-(x-x))))#(a)most d n-x#(a)least d n;");
        for (int i = 0; i < 6; i++) {
            text.append("answer y").append(i).append("=t*r-(t*r)[?u").append(i % 5).append("=d];");
        }
        return text.toString();
    }

    private static int[] words(String text) {
        int[] words = new int[(text.length() + 19) / 20 * 5];
        for (int i = 0; i < words.length * 4; i++) {
            words[i / 4] = words[i / 4] << 8 | (i < text.length() ? text.charAt(i) : ' ');
        }
        return words;
    }

    /** Feeds without making anything; what fills up the last twenty are blanks. */
    private static void put(DimShelf shelf, int[] words) {
        for (int i = 0; i < words.length; i += 5) {
            shelf.feed(words[i], words[i + 1], words[i + 2], words[i + 3], words[i + 4]);
        }
    }

    /** Behind the first text and the first look at each TABLE no call makes anything. */
    private static void dearest() {
        int[] text = words(full());
        int[] cond = words("?u0=1|?u1=2");
        long behind = 0;
        for (int n = 0; n < SHELVES; n++) {
            long start = made();
            DimShelf shelf = new DimShelf();
            put(shelf, text);
            int read = shelf.read();
            for (int t = 0; t < 10; t++) {
                shelf.table(t, 6);
            }
            long once = made();
            for (int i = 0; i < 30; i++) {
                dear(shelf, cond, i);
            }
            behind += made() - once;
            CHECK.due("read of a full text", read, 0);
            CHECK.due("all WORLDS", shelf.count(1), 1024);
            CHECK.due("bytes of the first calls: " + (once - start), once - start <= MOST_BYTES, true);
        }
        CHECK.due("bytes of the calls behind them: " + behind, behind <= STRAY_BYTES, true);
    }

    private static void dear(DimShelf shelf, int[] cond, int i) {
        put(shelf, cond);
        if (i % 2 == 0) {
            shelf.learn();
        } else {
            shelf.ask();
        }
        shelf.why(0);
        shelf.maybe(i % 10, i, 0);
        shelf.sure(i % 10, 0, 0);
        shelf.often(i % 10, i);
        shelf.size(i % 10, i);
        shelf.cell(i % 10, i, 0, 0);
        shelf.same(0, 0);
        shelf.undo();
    }

    /** A third text finds all rows made by the two ahead of it: each shelf has two places for a text. */
    private static void texts() {
        int[] text = words(full());
        long behind = 0;
        for (int n = 0; n < SHELVES; n++) {
            DimShelf shelf = new DimShelf();
            for (int i = 0; i < 6; i++) {
                long start = made();
                put(shelf, text);
                shelf.read();
                shelf.table(9, 6);
                behind += i < 2 ? 0 : made() - start;
            }
            CHECK.due("all TABLES", shelf.count(3), 10);
        }
        CHECK.due("bytes of the same text again: " + behind, behind <= STRAY_BYTES, true);
    }

    /** Texts with a FAULT of each rank, again and again. */
    private static void faults() {
        int[][] texts = {words("always 1"), words("table t(a);answer x=t*(t+(t-zz));"), words("always 1=2;"), words("1")};
        long behind = 0;
        for (int n = 0; n < SHELVES; n++) {
            DimShelf shelf = new DimShelf();
            for (int i = 0; i < 60; i++) {
                long start = made();
                put(shelf, texts[i % 4]);
                shelf.read();
                put(shelf, texts[i % 4]);
                shelf.ask();
                behind += i < 4 ? 0 : made() - start;
            }
        }
        CHECK.due("bytes of FAULTS: " + behind, behind <= STRAY_BYTES, true);
    }
}
