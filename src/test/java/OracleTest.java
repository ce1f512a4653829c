/** Runs many shelves beside the oracle: all their answers must be the same. */
public final class OracleTest {
    private static final Check CHECK = new Check();

    private static DimShelf shelf;
    private static Oracle oracle;
    private static String told = "";

    public static void main(String[] args) {
        long rounds = args.length > 0 ? Long.parseLong(args[0]) : 300;
        long from = args.length > 1 ? Long.parseLong(args[1]) : 1;
        for (long seed = from; seed < from + rounds && CHECK.wrong() == 0; seed++) {
            run(new Maker(seed));
            faults(new Maker(-seed));
            riddles(new Maker(seed * 7919));
            wild(new Maker(seed * 104729));
        }
        CHECK.finish("OracleTest");
    }

    private static void due(String what, long got, long want) {
        CHECK.due(what + " behind " + told, got, want);
    }

    private static void put(String text) {
        String cut = text.length() > 3980 ? text.substring(0, 3980) : text;
        Check.put(shelf, cut);
        oracle.put(cut);
        told = cut;
    }

    private static void run(Maker maker) {
        shelf = new DimShelf();
        oracle = new Oracle();
        int texts = 1 + maker.below(4);
        for (int i = 0; i < texts; i++) {
            if (i > 0 && maker.below(3) == 0) {
                put(maker.broken(maker.text(6 + maker.below(24), 0, 40)));
                due("read", shelf.read(), oracle.read());
            }
            put(maker.text(6 + maker.below(24), maker.below(8) == 0 ? 10 : 0, maker.below(20) == 0 ? 1024 : 40));
            due("read", shelf.read(), oracle.read());
            compare(maker);
            int calls = maker.below(14);
            for (int c = 0; c < calls; c++) {
                call(maker);
            }
        }
    }

    private static void call(Maker maker) {
        switch (maker.below(5)) {
            case 0, 1 -> {
                put(maker.cond(2));
                due("learn", shelf.learn(), oracle.learn());
                compare(maker);
            }
            case 2 -> {
                due("undo", shelf.undo() ? 1 : 0, oracle.undo() ? 1 : 0);
                compare(maker);
            }
            default -> {
                put(maker.below(5) == 0 ? maker.broken(maker.cond(1)) : maker.cond(1));
                due("ask", shelf.ask(), oracle.ask());
            }
        }
        states();
    }

    private static void states() {
        due("place", shelf.place(), oracle.place());
        for (int what = -1; what <= 7; what++) {
            due("count " + what, shelf.count(what), oracle.count(what));
        }
        for (int i = -1; i < 5; i++) {
            due("why " + i, shelf.why(i), oracle.why(i));
        }
    }

    private static void compare(Maker maker) {
        states();
        int tables = oracle.count(3);
        for (int t = -1; t <= tables; t++) {
            boolean full = oracle.count(0) < 12 || maker.below(4) == 0 && oracle.count(0) < 100;
            for (int what = -1; what <= 7; what++) {
                due("table " + t + " " + what, shelf.table(t, what), oracle.table(t, what));
            }
            rows(t);
            if (full) {
                listed(t);
                worlds(t, maker);
            }
            for (int s = -1; s <= tables; s++) {
                due("same " + t + " " + s, shelf.same(t, s), oracle.same(t, s));
            }
        }
        for (int i = 0; i < 10; i++) {
            int k = maker.below(oracle.count(0) + 2) - 1;
            int u = maker.below(oracle.count(2) + 2) - 1;
            due("value " + k + " " + u, shelf.value(k, u), oracle.value(k, u));
        }
    }

    private static void rows(int t) {
        for (int r = -1; r <= Math.max(0, oracle.table(t, 0)); r++) {
            due("many " + t + " " + r, shelf.many(t, r), oracle.many(t, r));
            for (int c = -1; c <= Math.max(0, oracle.table(t, 1)); c++) {
                for (int what = -1; what <= 2; what++) {
                    due("term " + t + " " + r + " " + c + " " + what, shelf.term(t, r, c, what),
                        oracle.term(t, r, c, what));
                }
            }
        }
    }

    private static void listed(int t) {
        for (int i = -1; i <= Math.min(25, Math.max(0, oracle.table(t, 6))); i++) {
            due("often " + t + " " + i, shelf.often(t, i), oracle.often(t, i));
            for (int c = -1; c <= Math.max(0, oracle.table(t, 1)); c++) {
                due("sure " + t + " " + i + " " + c, shelf.sure(t, i, c), oracle.sure(t, i, c));
                due("maybe " + t + " " + i + " " + c, shelf.maybe(t, i, c), oracle.maybe(t, i, c));
            }
        }
    }

    private static void worlds(int t, Maker maker) {
        for (int n = 0; n < 8; n++) {
            int k = maker.below(oracle.count(0) + 2) - 1;
            due("size " + t + " " + k, shelf.size(t, k), oracle.size(t, k));
            for (int i = -1; i <= Math.max(0, oracle.size(t, k)); i++) {
                due("holds " + t + " " + i + " " + k, shelf.holds(t, i, k) ? 1 : 0, oracle.holds(t, i, k) ? 1 : 0);
                for (int c = -1; c <= Math.max(0, oracle.table(t, 1)); c++) {
                    due("cell " + t + " " + k + " " + i + " " + c, shelf.cell(t, k, i, c), oracle.cell(t, k, i, c));
                }
            }
        }
    }

    /** Many PARTS, so that it takes some of them together for WHY something cannot be. */
    private static void riddles(Maker maker) {
        shelf = new DimShelf();
        oracle = new Oracle();
        put(maker.riddle(maker.below(6)));
        due("read", shelf.read(), oracle.read());
        for (int c = 0; c < 24; c++) {
            if (maker.below(2) == 0) {
                put(maker.clause(1 + maker.below(3)));
                due("learn", shelf.learn(), oracle.learn());
            } else if (maker.below(8) == 0) {
                due("undo", shelf.undo() ? 1 : 0, oracle.undo() ? 1 : 0);
            } else {
                put("(" + maker.clause(1) + ")&(" + maker.clause(1 + maker.below(2)) + ")&!(" + maker.clause(2) + ")");
                due("ask", shelf.ask(), oracle.ask());
            }
            states();
        }
    }

    /** Texts that are mostly broken: the number and the place of the fault. */
    private static void faults(Maker maker) {
        shelf = new DimShelf();
        oracle = new Oracle();
        for (int i = 0; i < 60; i++) {
            String text = maker.text(4 + maker.below(14), 15 * maker.below(4), 40);
            put(i % 3 == 0 ? text : i % 10 == 1 ? maker.noise(1 + maker.below(12)) : maker.broken(text));
            due("read", shelf.read(), oracle.read());
            due("place", shelf.place(), oracle.place());
        }
    }

    private static final int[] WILD = {Integer.MIN_VALUE, Integer.MIN_VALUE + 1, -100000, -33, -32, -1, 0, 1, 2, 3, 4, 5,
        6, 7, 8, 29, 30, 31, 32, 33, 63, 64, 1023, 1024, 1025, 4000, 1 << 26, 1 << 30, Integer.MAX_VALUE};

    private static int any(Maker maker) {
        return maker.below(2) == 0 ? maker.below(4) : WILD[maker.below(WILD.length)];
    }

    /** Calls with any arguments, in any order. */
    private static void wild(Maker maker) {
        shelf = new DimShelf();
        oracle = new Oracle();
        for (int call = 0; call < 300; call++) {
            int a = any(maker);
            int b = any(maker);
            int c = any(maker);
            int d = any(maker);
            switch (maker.below(24)) {
                case 0 -> feed(maker);
                case 1 -> due("back " + a, shelf.back(a), oracle.back(a));
                case 2 -> due("read", shelf.read(), oracle.read());
                case 3 -> due("learn", shelf.learn(), oracle.learn());
                case 4 -> due("ask", shelf.ask(), oracle.ask());
                case 5 -> due("undo", shelf.undo() ? 1 : 0, oracle.undo() ? 1 : 0);
                case 6 -> due("why " + a, shelf.why(a), oracle.why(a));
                case 7 -> due("value " + a + " " + b, shelf.value(a, b), oracle.value(a, b));
                case 8 -> due("table " + a + " " + b, shelf.table(a, b), oracle.table(a, b));
                case 9 -> due("term " + a + " " + b + " " + c + " " + d, shelf.term(a, b, c, d), oracle.term(a, b, c, d));
                case 10 -> due("many " + a + " " + b, shelf.many(a, b), oracle.many(a, b));
                case 11 -> due("holds " + a + " " + b + " " + c, shelf.holds(a, b, c) ? 1 : 0,
                    oracle.holds(a, b, c) ? 1 : 0);
                case 12 -> due("size " + a + " " + b, shelf.size(a, b), oracle.size(a, b));
                case 13 -> due("cell " + a + " " + b + " " + c + " " + d, shelf.cell(a, b, c, d), oracle.cell(a, b, c, d));
                case 14 -> due("sure " + a + " " + b + " " + c, shelf.sure(a, b, c), oracle.sure(a, b, c));
                case 15 -> due("maybe " + a + " " + b + " " + c, shelf.maybe(a, b, c), oracle.maybe(a, b, c));
                case 16 -> due("often " + a + " " + b, shelf.often(a, b), oracle.often(a, b));
                case 17 -> due("same " + a + " " + b, shelf.same(a, b), oracle.same(a, b));
                case 18 -> due("count " + a, shelf.count(a), oracle.count(a));
                case 19 -> due("place", shelf.place(), oracle.place());
                default -> wildText(maker);
            }
        }
    }

    private static void feed(Maker maker) {
        int[] words = new int[5];
        StringBuilder twenty = new StringBuilder();
        for (int i = 0; i < 5; i++) {
            words[i] = any(maker) * (1 + maker.below(99));
            for (int shift = 24; shift >= 0; shift -= 8) {
                twenty.append((char) (words[i] >>> shift & 255));
            }
        }
        due("feed", shelf.feed(words[0], words[1], words[2], words[3], words[4]), oracle.feed(twenty.toString()));
    }

    private static void wildText(Maker maker) {
        shelf.back(shelf.count(6));
        oracle.back(oracle.count(6));
        switch (maker.below(4)) {
            case 0 -> put(maker.noise(1 + maker.below(30)));
            case 1 -> put(maker.cond(1));
            default -> {
                put(maker.text(4 + maker.below(14), 0, 30));
                due("read", shelf.read(), oracle.read());
            }
        }
    }
}
