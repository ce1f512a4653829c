/** The promises one by one: ordinary inputs, the edges that the document names, and wrong inputs. */
public final class PromiseTest {
    private static final int NO = -100000;
    private static final Check CHECK = new Check();

    public static void main(String[] args) {
        newObject();
        feed();
        back();
        read();
        place();
        learn();
        undo();
        ask();
        why();
        whyOfSome();
        value();
        table();
        term();
        many();
        holds();
        size();
        cell();
        sure();
        maybe();
        often();
        same();
        count();
        CHECK.finish("PromiseTest");
    }

    private static void due(String what, long got, long want) {
        CHECK.due(what, got, want);
    }

    private static void due(String what, boolean got, boolean want) {
        CHECK.due(what, got, want);
    }

    private static void newObject() {
        DimShelf x = new DimShelf();
        due("1 NONE", DimShelf.NONE, -1);
        int[] counts = {1, 1, 0, 0, 0, 0, 0};
        for (int what = 0; what < counts.length; what++) {
            due("1 count " + what, x.count(what), counts[what]);
        }
        due("1 place", x.place(), -1);
        due("1 undo", x.undo(), false);
        due("1 why", x.why(0), -1);
        due("1 value", x.value(0, 0), NO);
        due("1 table", x.table(0, 0), -1);
        due("1 same", x.same(0, 0), -2);
        due("1 ask of a constant", Check.ask(x, "1=1"), 1);
        due("1 learn of a constant", Check.learn(x, "1=1"), 1);
        due("1 learn of what cannot be", Check.learn(x, "1=2"), -2);
    }

    private static void feed() {
        DimShelf x = new DimShelf();
        due("2 feed", x.feed(0x756e6b6e, 0x6f776e20, 0x753a352e, 0x2e373b20, 0x20202020), 20);
        due("2 count", x.count(6), 20);
        due("2 the highest byte comes first", x.read(), 0);
        due("2 its value", x.value(2, 0), 7);
        due("2 read empties the tape", x.count(6), 0);
        for (int i = 1; i <= 200; i++) {
            due("2 feed " + i, x.feed(0x20202020, 0x0a0d0920, 0x20202020, 0x20202020, 0x20202020), 20 * i);
        }
        due("2 no more", x.feed(0, 0, 0, 0, 0), -1);
        due("2 nothing came", x.count(6), 4000);
        due("2 back", x.back(19), 3981);
        due("2 still too many", x.feed(0, 0, 0, 0, 0), -1);
        due("2 back once more", x.back(1), 3980);
        due("2 the last that can be", x.feed(0x20202020, 0x20202020, 0x20202020, 0x20202020, 0x2020207f), 4000);
        due("2 a byte that is none", x.read(), 1);
        due("2 its place", x.place(), 3999);
        due("2 negative words", x.feed(-1, -1, -1, -1, -1), 20);
        due("2 are bytes of 255", x.read(), 1);
        due("2 at the first", x.place(), 0);
        Check.put(x, "table t(a);");
        x.feed(0x726f7720, 0x7428312c, 0x32293b20, 0x20202020, 0x20202020);
        due("2 behind what is there", x.read(), 5);
        due("2 with its place", x.place(), 15);
    }

    private static void back() {
        DimShelf x = new DimShelf();
        due("3 of nothing", x.back(0), 0);
        due("3 too many of nothing", x.back(1), -1);
        due("3 below 0", x.back(-1), -1);
        x.feed(0x313d3178, 0x78787878, 0x78787878, 0x78787878, 0x78787878);
        due("3 far below 0", x.back(Integer.MIN_VALUE), -1);
        due("3 one too many", x.back(21), -1);
        due("3 far too many", x.back(Integer.MAX_VALUE), -1);
        due("3 none went", x.count(6), 20);
        due("3 none at all", x.back(0), 20);
        due("3 some", x.back(17), 3);
        due("3 the others stand", x.ask(), 1);
        x.feed(1, 2, 3, 4, 5);
        due("3 all", x.back(20), 0);
        due("3 the text is empty", x.read(), 0);
    }

    private static void read() {
        DimShelf x = CHECK.shelf("unknown u:1..3;table t(a);row t(?u);always ?u<3;answer y=t[a=1];");
        Check.learn(x, "?u=1");
        Check.ask(x, "?u=3");
        due("4 why before", x.why(0), 0);
        due("4 a fault", Check.read(x, "unknown v:1;table t(a);table t(b);"), 3);
        due("4 changes nothing: UNKNOWNS", x.count(2), 1);
        due("4 changes nothing: TABLES", x.count(3), 2);
        due("4 changes nothing: PARTS", x.count(4), 2);
        due("4 changes nothing: learned", x.count(5), 1);
        due("4 changes nothing: asked", x.why(0), 0);
        due("4 but the tape", x.count(6), 0);
        due("4 NONE late in the text", Check.read(x, "unknown v:1..2;table s(a,b);always ?v=3;"), 7);
        due("4 changes nothing either", x.table(0, 1), 1);
        due("4 nor its WORLDS", x.count(1), 3);
        due("4 another text", Check.read(x, "unknown v:5;"), 0);
        due("4 nothing is learned", x.count(5), 0);
        due("4 no PARTS", x.count(4), 0);
        due("4 nothing was asked", x.why(0), -1);
        due("4 no TABLES", x.count(3), 0);
        due("4 the UNKNOWN", x.value(0, 0), 5);
        due("4 the empty text", x.read(), 0);
        due("4 is an empty shelf", x.count(2), 0);
    }

    private static void place() {
        DimShelf x = new DimShelf();
        due("5 read", Check.read(x, "table t(a)"), 1);
        due("5 the end of the text", x.place(), 10);
        due("5 read with blanks behind", Check.read(x, "table t(a)\n \r\t"), 1);
        due("5 the end counts them", x.place(), 14);
        due("5 learn", Check.learn(x, "1=?u"), -1);
        due("5 of learn", x.place(), 3);
        due("5 ask", Check.ask(x, "1=1 2"), -1);
        due("5 of ask", x.place(), 4);
        due("5 a learn without a fault", Check.learn(x, "1=2"), -2);
        due("5 is none", x.place(), -1);
        Check.ask(x, "");
        due("5 ask of nothing", x.place(), 0);
        due("5 a good ask", Check.ask(x, "1=1"), 1);
        due("5 is none, too", x.place(), -1);
        Check.read(x, "?");
        x.undo();
        x.count(0);
        x.feed(0, 0, 0, 0, 0);
        due("5 stays with other calls", x.place(), 0);
    }

    private static void learn() {
        DimShelf x = CHECK.shelf("unknown u:1..4;unknown v:1..4;always ?u<=?v;");
        due("6 worlds", x.count(0), 10);
        due("6 learn", Check.learn(x, "?u=2"), 3);
        due("6 a PART more", x.count(4), 2);
        due("6 nothing left", Check.learn(x, "?v=1"), -2);
        due("6 nothing else", x.count(4), 2);
        due("6 still", x.count(0), 3);
        due("6 SYNTAX", Check.learn(x, "?v=1)"), -1);
        due("6 behind it", x.place(), 4);
        due("6 SYNTAX of no TOKEN", Check.learn(x, "?v=1 $"), -1);
        due("6 at it", x.place(), 5);
        due("6 ROOM", Check.learn(x, "!!!!!!!!!1=1"), -1);
        due("6 at the ninth", x.place(), 8);
        due("6 NAME", Check.learn(x, "?v=1&?w=1"), -1);
        due("6 at it", x.place(), 6);
        for (int i = 2; i <= 8; i++) {
            due("6 learn " + i, Check.learn(x, "1=1"), 3);
        }
        due("6 eight are learned", x.count(5), 8);
        due("6 a ninth", Check.learn(x, "?v=2"), -3);
        due("6 a ninth without a WORLD", Check.learn(x, "?v=1"), -2);
        due("6 a ninth with a fault", Check.learn(x, "?v="), -1);
        due("6 the tape is empty", x.count(6), 0);
        due("6 PARTS stay", x.count(4), 9);
        due("6 WORLDS stay", x.count(0), 3);
        due("6 one is undone", x.undo(), true);
        due("6 another is learned", Check.learn(x, "?v=2"), 1);
    }

    private static void undo() {
        DimShelf x = CHECK.shelf("unknown u:1..6;always ?u!=6;");
        due("7 none is learned", x.undo(), false);
        due("7 always stays", x.count(4), 1);
        Check.learn(x, "?u<=3");
        Check.learn(x, "?u!=1");
        due("7 learned", x.count(0), 2);
        due("7 the latest", x.undo(), true);
        due("7 the WORLDS come back", x.count(0), 3);
        due("7 value", x.value(0, 0), 1);
        due("7 the other", x.undo(), true);
        due("7 PARTS", x.count(4), 1);
        due("7 WORLDS", x.count(0), 5);
        due("7 no more", x.undo(), false);
    }

    private static void ask() {
        DimShelf x = CHECK.shelf("unknown u:1..4;unknown v:0,-1,5;always ?u!=4;");
        due("8 ask", Check.ask(x, "?u=1|?v=5"), 5);
        due("8 and ahead of or", Check.ask(x, "?u=1|?u=2&?v=0"), 4);
        due("8 brackets", Check.ask(x, "(?u=1|?u=2)&?v=0"), 2);
        due("8 not", Check.ask(x, "!?u=1&?v=0"), 2);
        due("8 not of brackets", Check.ask(x, "!(?u=1&?v=0)"), 8);
        due("8 not not", Check.ask(x, "!!?u=1"), 3);
        due("8 below", Check.ask(x, "?v<?u"), 6);
        due("8 at most", Check.ask(x, "-1<=?v"), 9);
        due("8 below a negative", Check.ask(x, "?v<-1"), 0);
        due("8 at most a negative", Check.ask(x, "?v<=- 1"), 3);
        due("8 unlike", Check.ask(x, "?v!=?v"), 0);
        due("8 only WORLDS that hold", Check.ask(x, "?u=4"), 0);
        due("8 that is why", x.why(0), 0);
        due("8 SYNTAX", Check.ask(x, "?u<>1"), -1);
        due("8 NAME", Check.ask(x, "?x=1"), -1);
        due("8 ROOM", Check.ask(x, "(((((((((1=1)))))))))"), -1);
        due("8 what was asked stays", x.why(0), 0);
        Check.learn(x, "?u=1");
        due("8 behind a learn", Check.ask(x, "?v=0"), 1);
        due("8 the tape is empty", x.count(6), 0);
    }

    private static void why() {
        DimShelf x = CHECK.shelf("unknown u:1..4;unknown v:1..4;always ?u!=4;always ?v!=4;always ?u<=?v;");
        due("9 nothing was asked", x.why(0), -1);
        due("9 ask", Check.ask(x, "?u=3&?v=4"), 0);
        due("9 one PART", x.why(0), 1);
        due("9 no other", x.why(1), -1);
        due("9 below 0", x.why(-1), -1);
        due("9 far too many", x.why(Integer.MAX_VALUE), -1);
        due("9 ask of two", Check.ask(x, "?u=4"), 0);
        due("9 the smallest alone", x.why(0), 0);
        due("9 is alone", x.why(1), -1);
        due("9 ask what only two hinder", Check.ask(x, "?u=3&?v<3|?u=4&?v=1"), 0);
        due("9 one hinders both", x.why(0), 2);
        due("9 ask what can be", Check.ask(x, "?u=3"), 1);
        due("9 it can be", x.why(0), -1);
        due("9 learn", Check.learn(x, "?v=2"), 2);
        due("9 by the PARTS that there are now", x.why(0), 2);
        due("9 and the learned one", x.why(1), 3);
        due("9 two in all", x.why(2), -1);
        x.undo();
        due("9 undone", x.why(0), -1);
        due("9 ask what is so in no WORLD at all", Check.ask(x, "?u=5"), 0);
        due("9 no PART is the reason", x.why(0), -1);
    }

    private static void whyOfSome() {
        DimShelf x = CHECK.shelf("unknown u:1..4;always ?u!=1;always ?u!=2;always ?u!=1&?u!=3;always ?u!=2|1=2;");
        due("9 ask of three WORLDS", Check.ask(x, "?u<=3"), 0);
        due("9 the least first PART", x.why(0), 1);
        due("9 then the second", x.why(1), 2);
        due("9 two are enough", x.why(2), -1);
        x = CHECK.shelf("unknown u:1..6;always ?u!=1&?u!=2;always ?u!=3&?u!=4;always ?u!=1&?u!=3;always ?u!=2&?u!=4;");
        Check.ask(x, "?u<=4");
        due("9 of two pairs the one with the least number", x.why(0), 0);
        due("9 and its other", x.why(1), 1);
        Check.learn(x, "?u=5");
        due("9 a smaller one by what was learned", x.why(0), 4);
        due("9 alone", x.why(1), -1);
        x = CHECK.shelf("unknown u:1..4;always ?u!=1;always ?u!=2;always ?u!=3;");
        Check.ask(x, "?u<4");
        for (int i = 0; i < 3; i++) {
            due("9 all three", x.why(i), i);
        }
        Check.read(x, "unknown u:1;always ?u=1;");
        due("9 another text", x.why(0), -1);
    }

    private static void value() {
        DimShelf x = CHECK.shelf("unknown u:3,-9999,0;unknown v:-1..1;unknown w:7;always ?v!=0;");
        int[][] worlds = {{3, -1, 7}, {3, 1, 7}, {-9999, -1, 7}, {-9999, 1, 7}, {0, -1, 7}, {0, 1, 7}};
        due("10 worlds", x.count(0), worlds.length);
        for (int k = 0; k < worlds.length; k++) {
            for (int u = 0; u < 3; u++) {
                due("10 value " + k + " " + u, x.value(k, u), worlds[k][u]);
            }
        }
        due("10 no such WORLD", x.value(6, 0), NO);
        due("10 WORLD below 0", x.value(-1, 0), NO);
        due("10 no such UNKNOWN", x.value(0, 3), NO);
        due("10 UNKNOWN below 0", x.value(0, -1), NO);
        due("10 far off", x.value(Integer.MAX_VALUE, Integer.MIN_VALUE), NO);
        Check.learn(x, "?u=0");
        due("10 numbered anew", x.value(1, 1), 1);
        due("10 fewer", x.value(2, 0), NO);
    }

    private static final String SHELF = "unknown u:1..2;unknown v:3,1;table t(a,b);row t(1,?u);row t(?v,2) if ?u=1;"
        + "always ?u<?v;answer x=t:(a);answer y=t-t[a=1];answer z=t#(a)count n;table e(k);";

    private static void table() {
        DimShelf x = CHECK.shelf(SHELF);
        int[][] answers = {{2, 2, 0, 1, 2, 0, 3}, {2, 1, 1, 1, 2, 1, 2}, {2, 2, 1, 0, 1, 0, 1},
            {3, 2, 1, 1, 2, 1, 2}, {0, 1, 0, 0, 0, 0, 0}};
        for (int t = 0; t < answers.length; t++) {
            for (int what = 0; what < 7; what++) {
                due("11 table " + t + " " + what, x.table(t, what), answers[t][what]);
            }
            due("11 another what", x.table(t, 7), -1);
            due("11 what below 0", x.table(t, -1), -1);
        }
        due("11 no such TABLE", x.table(5, 0), -1);
        due("11 TABLE below 0", x.table(-1, 0), -1);
        Check.learn(x, "?u=2");
        due("11 SURE by what is learned", x.table(0, 5), 1);
        due("11 MAYBE by what is learned", x.table(0, 6), 1);
        due("11 greatest by what is learned", x.table(2, 4), 0);
        x.undo();
        due("11 again as it was", x.table(0, 6), 3);
    }

    private static void term() {
        DimShelf x = CHECK.shelf("unknown u:1..2;unknown v:3,1;table t(a,b);row t(-7,?v);row t(?u,2) if ?u=1;"
            + "answer j=t*t{c=b};answer p=t:(b,a);answer s=t+t[a<0];answer n=t#(b)count n;");
        int[][] first = {{0, -7}, {1, 1}};
        for (int c = 0; c < 2; c++) {
            due("12 sort", x.term(0, 0, c, 0), first[c][0]);
            due("12 number", x.term(0, 0, c, 1), first[c][1]);
        }
        due("12 the UNKNOWN's number", x.term(0, 1, 0, 1), 0);
        due("12 join keeps all ROWS", x.table(1, 0), 4);
        due("12 join of the second and the first", x.term(1, 2, 0, 0), 1);
        due("12 A's TERMS stand", x.term(1, 2, 0, 1), 0);
        due("12 B's behind them", x.term(1, 2, 2, 1), 1);
        due("12 picked", x.term(2, 0, 0, 0), 1);
        due("12 picked behind", x.term(2, 0, 1, 1), -7);
        due("12 sum: the ROWS of B behind", x.term(3, 3, 1, 1), 2);
        due("12 groups are of values", x.term(4, 0, 0, 0), 0);
        due("12 in their order", x.term(4, 0, 0, 1), 1);
        due("12 another what", x.term(0, 0, 0, 2), NO);
        due("12 what below 0", x.term(0, 0, 0, -1), NO);
        due("12 no such COLUMN", x.term(0, 0, 2, 0), NO);
        due("12 COLUMN below 0", x.term(0, 1, -1, 0), NO);
        due("12 no such ROW", x.term(0, 2, 0, 0), NO);
        due("12 ROW below 0", x.term(0, -1, 0, 0), NO);
        due("12 no such TABLE", x.term(5, 0, 0, 0), NO);
        due("12 TABLE below 0", x.term(-1, 0, 0, 0), NO);
    }

    private static void many() {
        DimShelf x = CHECK.shelf(SHELF);
        int[][] answers = {{2, 1}, {2, 1}, {0, 1}, {2, 0, 1}, {}};
        for (int t = 0; t < answers.length; t++) {
            for (int r = 0; r < answers[t].length; r++) {
                due("13 many " + t + " " + r, x.many(t, r), answers[t][r]);
            }
            due("13 no such ROW", x.many(t, answers[t].length), -1);
            due("13 ROW below 0", x.many(t, -1), -1);
        }
        due("13 no such TABLE", x.many(5, 0), -1);
        due("13 TABLE below 0", x.many(-1, 0), -1);
        Check.learn(x, "?u=1");
        due("13 by what is learned", x.many(0, 0), 1);
    }

    private static void holds() {
        DimShelf x = CHECK.shelf(SHELF);
        due("14 without a CONDITION", x.holds(0, 0, 0), true);
        due("14 with one", x.holds(0, 1, 0), true);
        due("14 with one that does not hold", x.holds(0, 1, 1), false);
        due("14 of a group", x.holds(3, 2, 0), true);
        due("14 of a group that is not there", x.holds(3, 2, 1), false);
        due("14 no such WORLD", x.holds(0, 0, 2), false);
        due("14 WORLD below 0", x.holds(0, 0, -1), false);
        due("14 no such ROW", x.holds(0, 2, 0), false);
        due("14 ROW below 0", x.holds(0, -1, 0), false);
        due("14 ROW far off", x.holds(0, 32, 0), false);
        due("14 no such TABLE", x.holds(5, 0, 0), false);
        due("14 TABLE below 0", x.holds(-1, 0, 0), false);
    }

    private static void size() {
        DimShelf x = CHECK.shelf(SHELF);
        due("15 two", x.size(0, 0), 2);
        due("15 one", x.size(0, 1), 1);
        due("15 none", x.size(2, 1), 0);
        due("15 no such WORLD", x.size(0, 2), -1);
        due("15 WORLD below 0", x.size(0, -1), -1);
        due("15 no such TABLE", x.size(5, 0), -1);
        due("15 TABLE below 0", x.size(-1, 0), -1);
        x = CHECK.shelf("unknown u:1..2;table t(a);row t(?u);row t(1);row t(1);");
        due("15 alike ones are one", x.size(0, 0), 1);
        due("15 unlike ones are two", x.size(0, 1), 2);
    }

    private static void cell() {
        DimShelf x = CHECK.shelf("unknown u:9,-9;table t(a,b);row t(5,?u);row t(5,0);row t(-3,7);row t(?u,1) if ?u<0;");
        int[][] first = {{-3, 7}, {5, 0}, {5, 9}};
        int[][] second = {{-9, 1}, {-3, 7}, {5, -9}, {5, 0}};
        for (int c = 0; c < 2; c++) {
            for (int i = 0; i < first.length; i++) {
                due("16 cell 0 " + i + " " + c, x.cell(0, 0, i, c), first[i][c]);
            }
            for (int i = 0; i < second.length; i++) {
                due("16 cell 1 " + i + " " + c, x.cell(0, 1, i, c), second[i][c]);
            }
        }
        due("16 no such row", x.cell(0, 0, 3, 0), NO);
        due("16 row below 0", x.cell(0, 0, -1, 0), NO);
        due("16 no such COLUMN", x.cell(0, 0, 0, 2), NO);
        due("16 COLUMN below 0", x.cell(0, 0, 1, -1), NO);
        due("16 no such WORLD", x.cell(0, 2, 0, 0), NO);
        due("16 WORLD below 0", x.cell(0, -1, 0, 0), NO);
        due("16 no such TABLE", x.cell(1, 0, 0, 0), NO);
        due("16 TABLE below 0", x.cell(-1, 0, 0, 0), NO);
    }

    private static final String LISTED = "unknown u:1..3;table t(a,b);row t(?u,0);row t(2,0);row t(1,5) if ?u!=2;"
        + "row t(0,8) if ?u=2;row t(0,8) if ?u!=2;table e(a);";

    private static void sure() {
        DimShelf x = CHECK.shelf(LISTED);
        due("17 SURE rows", x.table(0, 5), 2);
        int[][] rows = {{0, 8}, {2, 0}};
        for (int i = 0; i < rows.length; i++) {
            for (int c = 0; c < 2; c++) {
                due("17 sure " + i + " " + c, x.sure(0, i, c), rows[i][c]);
            }
        }
        due("17 no such row", x.sure(0, 2, 0), NO);
        due("17 row below 0", x.sure(0, -1, 0), NO);
        due("17 no such COLUMN", x.sure(0, 0, 2), NO);
        due("17 COLUMN below 0", x.sure(0, 0, -1), NO);
        due("17 no such TABLE", x.sure(2, 0, 0), NO);
        due("17 TABLE below 0", x.sure(-1, 0, 0), NO);
        due("17 none", x.sure(1, 0, 0), NO);
        Check.learn(x, "?u!=2");
        due("17 more by what is learned", x.sure(0, 1, 1), 5);
        x.undo();
        due("17 and undone", x.sure(0, 1, 1), 0);
    }

    private static void maybe() {
        DimShelf x = CHECK.shelf(LISTED);
        int[][] rows = {{0, 8}, {1, 0}, {1, 5}, {2, 0}, {3, 0}};
        due("18 MAYBE rows", x.table(0, 6), rows.length);
        for (int i = 0; i < rows.length; i++) {
            for (int c = 0; c < 2; c++) {
                due("18 maybe " + i + " " + c, x.maybe(0, i, c), rows[i][c]);
            }
        }
        due("18 no such row", x.maybe(0, 5, 0), NO);
        due("18 row below 0", x.maybe(0, -1, 0), NO);
        due("18 no such COLUMN", x.maybe(0, 0, 2), NO);
        due("18 COLUMN below 0", x.maybe(0, 0, -1), NO);
        due("18 no such TABLE", x.maybe(2, 0, 0), NO);
        due("18 TABLE below 0", x.maybe(-1, 0, 0), NO);
        due("18 none", x.maybe(1, 0, 0), NO);
        Check.learn(x, "?u=3");
        due("18 fewer by what is learned", x.table(0, 6), 4);
        due("18 the last", x.maybe(0, 3, 0), 3);
        x = CHECK.shelf("unknown u:0..31;unknown v:0..31;table t(a,b);row t(?u,?v);row t(?v,?u);row t(-1,-1);");
        due("18 of 1,024 WORLDS", x.table(0, 6), 1025);
        due("18 the last of them", x.maybe(0, 1024, 1), 31);
        due("18 there is the last", x.maybe(0, 1025, 1), NO);
        due("18 in one WORLD", x.often(0, 34), 1);
        due("18 in two", x.often(0, 33), 2);
        due("18 in all", x.often(0, 0), 1024);
    }

    private static void often() {
        DimShelf x = CHECK.shelf(LISTED);
        int[] worlds = {3, 1, 2, 3, 1};
        for (int i = 0; i < worlds.length; i++) {
            due("19 often " + i, x.often(0, i), worlds[i]);
        }
        due("19 no such row", x.often(0, 5), -1);
        due("19 row below 0", x.often(0, -1), -1);
        due("19 none", x.often(1, 0), -1);
        due("19 no such TABLE", x.often(2, 0), -1);
        due("19 TABLE below 0", x.often(-1, 0), -1);
        Check.learn(x, "?u!=1");
        due("19 by what is learned", x.often(0, 0), 2);
    }

    private static void same() {
        DimShelf x = CHECK.shelf("unknown u:1..3;table t(a);row t(?u);table s(b);row s(1);row s(1);row s(2) if ?u=2;"
            + "table w(a,b);row w(?u,?u);table v(b,a);row v(?u,3);table e(a);table f(k);row f(1) if ?u=4;");
        due("20 itself", x.same(0, 0), -1);
        due("20 by values, not by names", x.same(0, 1), 1);
        due("20 the other way", x.same(1, 0), 1);
        due("20 not as many COLUMNS", x.same(0, 2), -2);
        due("20 the order of COLUMNS", x.same(2, 3), 0);
        due("20 without rows", x.same(4, 5), -1);
        due("20 against none", x.same(4, 0), 0);
        due("20 no such TABLE", x.same(0, 6), -2);
        due("20 no such first TABLE", x.same(6, 0), -2);
        due("20 below 0", x.same(-1, 0), -2);
        due("20 both below 0", x.same(-1, -1), -2);
        Check.learn(x, "?u!=1");
        due("20 the WORLDS are numbered anew", x.same(0, 1), 0);
        due("20 in the last alone they are alike", x.same(2, 3), 0);
        Check.learn(x, "?u=3");
        due("20 in all that hold", x.same(2, 3), -1);
    }

    private static void count() {
        DimShelf x = CHECK.shelf("unknown u:1..3;unknown v:1,2;always ?u!=3;table t(a);answer x=t;always ?u=?u;");
        Check.learn(x, "?v=1");
        Check.put(x, "12345");
        int[] counts = {2, 6, 2, 2, 3, 1, 5};
        for (int what = 0; what < counts.length; what++) {
            due("21 count " + what, x.count(what), counts[what]);
        }
        due("21 another what", x.count(7), -1);
        due("21 below 0", x.count(-1), -1);
        due("21 far off", x.count(Integer.MAX_VALUE), -1);
        x.feed(0, 0, 0, 0, 0);
        due("21 the tape", x.count(6), 25);
    }
}
