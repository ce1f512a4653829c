import java.util.function.Consumer;
import java.util.function.IntUnaryOperator;

/** Calls that are refused: what they answer, and that nothing else has changed. */
public final class RefusedTest {
    private static final int NO = -100000;
    private static final int[] FAR = {Integer.MIN_VALUE, Integer.MIN_VALUE + 1, -1024, -64, -30, -2, -1};
    private static final int[] BEYOND = {1, 2, 5, 24, 29, 63, 1023, 65535, 1 << 20, 1 << 27, 1 << 28, 1 << 29, 1 << 30};
    private static final Check CHECK = new Check();

    private static final String TOLD = "unknown u:1..3;unknown v:0,7;always ?u!=3|?v=0;table t(a,b);row t(?u,?v);"
        + "row t(2,0) if ?v=0;answer x=t:(b)#()sum b n;";

    public static void main(String[] args) {
        feeds();
        backs();
        reads();
        learns();
        asks();
        undos();
        emptyShelf();
        arguments();
        queries();
        CHECK.finish("RefusedTest");
    }

    private static void due(String what, long got, long want) {
        CHECK.due(what, got, want);
    }

    /** A shelf with a PART of the text, two learned, a COND asked that cannot be, and a FAULT ahead of it all. */
    private static DimShelf told() {
        DimShelf x = new DimShelf();
        due("read", Check.read(x, TOLD), 0);
        due("learn", Check.learn(x, "?u<=2|?v!=0"), 4);
        due("learn", Check.learn(x, "?u!=1"), 2);
        due("ask", Check.ask(x, "?u=1|?u=3"), 0);
        due("why", x.why(2), 2);
        return x;
    }

    /** The call may change neither what the shelf answers now nor what it does behind each undo. */
    private static void unchanged(String what, Consumer<DimShelf> call) {
        DimShelf x = told();
        Look before = Look.at(x);
        call.accept(x);
        Look.at(x).due(CHECK, what, before);
        Look.undone(x).due(CHECK, what, Look.undone(told()));
        CHECK.due(what + ": no more than 512 calls", 260 + 2 * before.calls() + 45 <= 512, true);
    }

    /** The tape of so many bytes: each is its own number, as far as it goes. */
    private static void fill(DimShelf x, int twenties) {
        for (int i = 0; i < twenties; i++) {
            due("feed of the tape", x.feed(0x20202020, 0x20202020, 0x20202020, 0x20202020, 0x20202020), 20 * i + 20);
        }
    }

    private static void feeds() {
        unchanged("a feed that would make more than 4,000", x -> {
            fill(x, 200);
            due("4,000 are there", x.count(6), 4000);
            due("a feed more", x.feed(0x3f3f3f3f, 0x3f3f3f3f, 0x3f3f3f3f, 0x3f3f3f3f, 0x3f3f3f3f), -1);
            due("still 4,000", x.count(6), 4000);
            due("no place of a FAULT", x.place(), -1);
        });
        for (int room = 0; room <= 20; room++) {
            DimShelf x = new DimShelf();
            fill(x, 200);
            due("back", x.back(room), 4000 - room);
            int want = room == 20 ? 4000 : -1;
            due("a feed with room for " + room, x.feed(-1, -1, -1, -1, -1), want);
            due("its bytes", x.count(6), want == -1 ? 4000 - room : 4000);
            due("a text of them", x.read(), want == -1 ? 0 : 1);
            due("the first byte of the feed", x.place(), want == -1 ? -1 : 3980);
        }
    }

    private static void backs() {
        for (int n : new int[] {Integer.MIN_VALUE, -4001, -20, -1, 21, 22, 4000, Integer.MAX_VALUE}) {
            unchanged("a back of " + n, x -> {
                x.feed(0x756e6b6e, 0x6f776e20, 0x773a383b, 0x20202020, 0x20202020);
                due("a back of " + n, x.back(n), -1);
                due("nothing goes", x.count(6), 20);
            });
            DimShelf x = new DimShelf();
            x.feed(0x756e6b6e, 0x6f776e20, 0x773a383b, 0x20202020, 0x20202020);
            due("a back of " + n, x.back(n), -1);
            due("the bytes are as they were", x.read(), 0);
            due("and their text", x.value(0, 0), 8);
        }
        DimShelf x = new DimShelf();
        due("a back of an empty tape", x.back(1), -1);
        due("a back of nothing of it", x.back(0), 0);
        fill(x, 200);
        due("a back of one more than all", x.back(4001), -1);
        due("a back of all", x.back(4000), 0);
        due("none more", x.back(1), -1);
        due("a feed behind it", x.feed(0, 0, 0, 0, 0), 20);
    }

    private static void fault(int number, String marked) {
        String text = marked.replace("^", "");
        unchanged("a text with FAULT " + number, x -> {
            due("read of " + text, Check.read(x, text), number);
            due("its place", x.place(), marked.indexOf('^'));
            due("the tape is empty", x.count(6), 0);
        });
        DimShelf x = new DimShelf();
        due("read of " + text + " into an empty shelf", Check.read(x, text), number);
        for (int what = 0; what < 7; what++) {
            due("count " + what + " behind FAULT " + number, x.count(what), what < 2 ? 1 : 0);
        }
        due("no TABLE behind FAULT " + number, x.table(0, 0), -1);
        due("no value behind FAULT " + number, x.value(0, 0), NO);
    }

    private static void reads() {
        String other = "unknown w:5..8;unknown z:1..3;table r(c);row r(?w);row r(?z);answer q=r#(c)count n;always ?w!=5;";
        fault(1, other + "^;");
        fault(1, other + "table s(a)^");
        fault(2, other + "table s(a,b,c,d,^e);");
        fault(3, other + "unknown ^w:1;");
        fault(4, other + "row ^s(1);");
        fault(5, other + "row ^q(1);");
        fault(6, other + "answer p=(r+r)*(r+r)^*r;");
        fault(7, other + "^always ?w=5;");
    }

    private static void refusedLearn(String marked, int want) {
        String text = marked.replace("^", "");
        unchanged("a learn of " + text, x -> {
            due("learn of " + text, Check.learn(x, text), want);
            due("place of learned " + text, x.place(), marked.indexOf('^'));
            due("the tape is empty", x.count(6), 0);
        });
    }

    private static void learns() {
        refusedLearn("^", -1);
        refusedLearn("?u=^", -1);
        refusedLearn("?u=2^;", -1);
        refusedLearn("?u=2^)", -1);
        refusedLearn("!!!!!!!!^!?u=2", -1);
        refusedLearn("((((((((^(?u=2)))))))))", -1);
        refusedLearn("?^w=2", -1);
        refusedLearn("?^t=2", -1);
        refusedLearn("?u=4", -2);
        refusedLearn("?u=1", -2);
        refusedLearn("?u!=?u", -2);
        DimShelf x = new DimShelf();
        due("read", Check.read(x, TOLD), 0);
        for (int i = 1; i <= 8; i++) {
            due("learn " + i, Check.learn(x, "?u!=3"), 4);
            due("learned " + i, x.count(5), i);
        }
        due("ask", Check.ask(x, "?u=3"), 0);
        Look before = Look.at(x);
        due("a ninth", Check.learn(x, "?u=1"), -3);
        due("has no place", x.place(), -1);
        due("and empties the tape", x.count(6), 0);
        due("a ninth with which no WORLD would hold", Check.learn(x, "?u=3"), -2);
        due("has no place either", x.place(), -1);
        due("a ninth with a FAULT", Check.learn(x, "?u=3&?x=1"), -1);
        due("has its place", x.place(), 6);
        Look.at(x).due(CHECK, "a ninth", before);
        for (int i = 7; i >= 0; i--) {
            due("undo", x.undo(), true);
            due("learned", x.count(5), i);
        }
        due("no more", x.undo(), false);
    }

    private static void due(String what, boolean got, boolean want) {
        CHECK.due(what, got, want);
    }

    private static void refusedAsk(String marked) {
        String text = marked.replace("^", "");
        unchanged("an ask of " + text, x -> {
            due("ask of " + text, Check.ask(x, text), -1);
            due("place of asked " + text, x.place(), marked.indexOf('^'));
            due("the tape is empty", x.count(6), 0);
            due("what was asked ahead stays", x.why(2), 2);
        });
        DimShelf x = CHECK.shelf(TOLD);
        due("ask of " + text, Check.ask(x, text), -1);
        due("nothing was asked", x.why(0), -1);
    }

    private static void asks() {
        refusedAsk("^");
        refusedAsk("?u^");
        refusedAsk("?u=2^;");
        refusedAsk("?u=2 ^always");
        refusedAsk("?u=2^$");
        refusedAsk("!!!!!!!!^!?u=2");
        refusedAsk("!(!(!(!(^!?u=2))))");
        refusedAsk("?^x=2");
        refusedAsk("1=1|2=?^w");
    }

    private static void undos() {
        DimShelf x = CHECK.shelf(TOLD);
        due("ask", Check.ask(x, "?u=3&?v=7"), 0);
        Look before = Look.at(x);
        due("undo of what always is", x.undo(), false);
        due("and again", x.undo(), false);
        Look.at(x).due(CHECK, "an undo", before);
        due("learn behind it", Check.learn(x, "?u=3"), 1);
        due("undo", x.undo(), true);
        Look.at(x).due(CHECK, "what is learned and undone", before);
    }

    private static void emptyShelf() {
        DimShelf x = new DimShelf();
        Look before = Look.at(x);
        due("undo", x.undo(), false);
        due("back", x.back(1), -1);
        due("learn of nothing", x.learn(), -1);
        due("its place", x.place(), 0);
        due("ask of nothing", x.ask(), -1);
        due("its place", x.place(), 0);
        due("read of nothing", x.read(), 0);
        due("without a place", x.place(), -1);
        due("value", x.value(0, 0), NO);
        due("table", x.table(0, 0), -1);
        due("term", x.term(0, 0, 0, 0), NO);
        due("many", x.many(0, 0), -1);
        due("holds", x.holds(0, 0, 0), false);
        due("size", x.size(0, 0), -1);
        due("cell", x.cell(0, 0, 0, 0), NO);
        due("sure", x.sure(0, 0, 0), NO);
        due("maybe", x.maybe(0, 0, 0), NO);
        due("often", x.often(0, 0), -1);
        due("same", x.same(0, 0), -2);
        due("why", x.why(0), -1);
        Look.at(x).due(CHECK, "an empty shelf", before);
    }

    /** The argument may be 0 to last; what is below, above or far off is answered by none. */
    private static void argument(String what, int last, int none, IntUnaryOperator call) {
        for (int good = 0; good <= last; good++) {
            CHECK.due(what + " of " + good + " is there", call.applyAsInt(good) != none, true);
        }
        for (int far : FAR) {
            due(what + " of " + far, call.applyAsInt(far), none);
        }
        for (int far : BEYOND) {
            due(what + " of " + (last + far), call.applyAsInt(last + far), none);
        }
        due(what + " of the greatest", call.applyAsInt(Integer.MAX_VALUE), none);
        due(what + " of all bits but one", call.applyAsInt(Integer.MAX_VALUE - 1), none);
    }

    private static DimShelf small() {
        return CHECK.shelf("unknown u:1..3;unknown v:1;always ?u!=2;table t(a,b);row t(5,?u);row t(6,6);table e(a,b,c);"
            + "answer y=t[a=6];");
    }

    private static void arguments() {
        DimShelf a = small();
        argument("count", 6, -1, a::count);
        argument("value k", 1, NO, k -> a.value(k, 1));
        argument("value u", 1, NO, u -> a.value(1, u));
        argument("table t", 2, -1, t -> a.table(t, 0));
        argument("table what", 6, -1, what -> a.table(2, what));
        argument("term t", 0, NO, t -> a.term(t == 2 ? 3 : t, 0, 0, 0));
        argument("term r", 1, NO, r -> a.term(0, r, 1, 1));
        argument("term c", 1, NO, c -> a.term(0, 0, c, 0));
        argument("term what", 1, NO, what -> a.term(2, 1, 1, what));
        DimShelf b = small();
        argument("many r", 1, -1, r -> b.many(2, r));
        argument("many t", 0, -1, t -> b.many(t == 2 ? 3 : t, 0));
        argument("holds t", 0, 0, t -> b.holds(t == 2 ? 3 : t, 1, 1) ? 1 : 0);
        argument("holds r", 1, 0, r -> b.holds(0, r, 1) ? 1 : 0);
        argument("holds k", 1, 0, k -> b.holds(2, 1, k) ? 1 : 0);
        argument("size t", 2, -1, t -> b.size(t, 1));
        argument("size k", 1, -1, k -> b.size(0, k));
        argument("cell t", 0, NO, t -> b.cell(t == 2 ? 3 : t, 0, 0, 0));
        argument("cell k", 1, NO, k -> b.cell(0, k, 1, 1));
        argument("cell i", 1, NO, i -> b.cell(0, 1, i, 1));
        argument("cell c", 1, NO, c -> b.cell(0, 1, 1, c));
        DimShelf c = small();
        argument("sure t", 0, NO, t -> c.sure(t == 2 ? 3 : t, 0, 1));
        argument("sure i", 0, NO, i -> c.sure(0, i, 1));
        argument("sure c", 1, NO, column -> c.sure(2, 0, column));
        argument("maybe t", 0, NO, t -> c.maybe(t == 2 ? 3 : t, 0, 1));
        argument("maybe i", 2, NO, i -> c.maybe(0, i, 1));
        argument("maybe c", 1, NO, column -> c.maybe(0, 2, column));
        argument("often t", 0, -1, t -> c.often(t == 2 ? 3 : t, 0));
        argument("often i", 2, -1, i -> c.often(0, i));
        DimShelf d = small();
        argument("same t", 0, -2, t -> d.same(t == 2 ? 3 : t, 0));
        argument("same s", 0, -2, s -> d.same(0, s == 2 ? 3 : s));
        due("same of as many COLUMNS", d.same(0, 2), 0);
        due("same of more COLUMNS", d.same(0, 1), -2);
        due("ask", Check.ask(d, "?u=2"), 0);
        argument("why", 0, -1, d::why);
    }

    private static void queries() {
        unchanged("calls that only ask", x -> {
            for (int n : new int[] {-1, 0, 1, 99}) {
                x.count(n);
                x.why(n);
                x.value(n, n);
                x.table(n, 6);
                x.term(n, n, 0, 1);
                x.many(n, n);
                x.holds(n, n, n);
                x.size(n, 1);
                x.cell(n, 1, n, 0);
                x.sure(n, n, 0);
                x.maybe(n, n, 0);
                x.often(n, n);
                x.same(n, 0);
                x.place();
            }
        });
    }
}
