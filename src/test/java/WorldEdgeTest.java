/** WORLDS, TABLES, ANSWERS, SURE and MAYBE rows and WHY at their edges: empty, full, first, last, a wrap-around. */
public final class WorldEdgeTest {
    private static final int NO = -100000;
    private static final Check CHECK = new Check();

    public static void main(String[] args) {
        noUnknowns();
        orderOfWorlds();
        mostWorlds();
        mostUnknowns();
        partsAreNumbered();
        mostParts();
        emptyTables();
        conditions();
        alikeOnes();
        ofRowsToldByThen();
        emptySides();
        widest();
        tests();
        joins();
        joinsOfMany();
        differences();
        differencesOfMany();
        groups();
        groupsOfWorlds();
        fullTables();
        sumsThatWrap();
        wrappedValues();
        listed();
        mostListed();
        oneWorld();
        sameRows();
        whyOfOne();
        whyOfMany();
        readForgets();
        tape();
        bytesThatWent();
        readAgain();
        readLess();
        readFewerUnknowns();
        readFewerRows();
        readBehindFaults();
        lastCalls();
        CHECK.finish("WorldEdgeTest");
    }

    private static void due(String what, long got, long want) {
        CHECK.due(what, got, want);
    }

    private static void due(String what, String got, String want) {
        CHECK.due(what + ": '" + got + "', due is '" + want + "'", got.equals(want), true);
    }

    /** The rows of the TABLE in the WORLD. */
    private static String rows(DimShelf x, int t, int k) {
        StringBuilder text = new StringBuilder();
        int width = x.table(t, 1);
        int size = x.size(t, k);
        for (int i = 0; i < size; i++) {
            text.append(i == 0 ? "" : " ");
            for (int c = 0; c < width; c++) {
                text.append(c == 0 ? "" : ",").append(x.cell(t, k, i, c));
            }
        }
        due("no row more", x.cell(t, k, size, 0), NO);
        return text.toString();
    }

    /** The SURE rows of the TABLE, or its MAYBE rows, each with the number of WORLDS. */
    private static String listed(DimShelf x, int t, boolean sure) {
        StringBuilder text = new StringBuilder();
        int width = x.table(t, 1);
        int length = x.table(t, sure ? 5 : 6);
        for (int i = 0; i < length; i++) {
            text.append(i == 0 ? "" : " ");
            for (int c = 0; c < width; c++) {
                text.append(c == 0 ? "" : ",").append(sure ? x.sure(t, i, c) : x.maybe(t, i, c));
            }
            text.append(sure ? "" : "/" + x.often(t, i));
        }
        due("no row more", sure ? x.sure(t, length, 0) : x.maybe(t, length, 0), NO);
        return text.toString();
    }

    /** The ROWS of the TABLE: their TERMS, and in how many WORLDS each is there. */
    private static String terms(DimShelf x, int t) {
        StringBuilder text = new StringBuilder();
        int width = x.table(t, 1);
        int height = x.table(t, 0);
        for (int r = 0; r < height; r++) {
            text.append(r == 0 ? "" : " ");
            for (int c = 0; c < width; c++) {
                text.append(c == 0 ? "" : ",").append(x.term(t, r, c, 0) == 1 ? "?" : "").append(x.term(t, r, c, 1));
            }
            text.append('/').append(x.many(t, r));
        }
        due("no ROW more", x.many(t, height), -1);
        return text.toString();
    }

    /** "without UNKNOWNS there is one": a WORLD. */
    private static void noUnknowns() {
        DimShelf x = CHECK.shelf("table t(a);row t(4);row t(5) if 1=2;always 1=1;");
        due("WORLDS that hold", x.count(0), 1);
        due("all WORLDS", x.count(1), 1);
        due("UNKNOWNS", x.count(2), 0);
        due("no value", x.value(0, 0), NO);
        due("its rows", rows(x, 0, 0), "4");
        due("its SURE rows", listed(x, 0, true), "4");
        due("its MAYBE rows", listed(x, 0, false), "4/1");
        due("no second WORLD", x.size(0, 1), -1);
        due("ask", Check.ask(x, "1=1"), 1);
        due("ask", Check.ask(x, "1=2"), 0);
        due("learn", Check.learn(x, "1=1"), 1);
    }

    /** "ordered by the first UNKNOWN's, then the second's, .. each by the order of its values". */
    private static void orderOfWorlds() {
        DimShelf x = CHECK.shelf("unknown u:5,-5,0;unknown v:-1..1;unknown w:9;unknown z:2,1;");
        int[] us = {5, -5, 0};
        int[] zs = {2, 1};
        for (int k = 0; k < 18; k++) {
            due("u in " + k, x.value(k, 0), us[k / 6]);
            due("v in " + k, x.value(k, 1), k / 2 % 3 - 1);
            due("w in " + k, x.value(k, 2), 9);
            due("z in " + k, x.value(k, 3), zs[k % 2]);
        }
        due("no WORLD more", x.value(18, 0), NO);
        due("learn", Check.learn(x, "?u=0&?z=1|?u=5&?v=1&?z=2"), 4);
        due("the first that holds", x.value(0, 0), 5);
        due("the second", x.value(1, 0), 0);
        due("the last", x.value(3, 1), 1);
        due("no more of them", x.value(4, 1), NO);
    }

    /** 1,024 WORLDS may be. */
    private static void mostWorlds() {
        DimShelf x = CHECK.shelf("unknown u:-32..31;unknown v:1,2,3,4,5,6,7,8,9,10,11,12,13,14,15,16;table t(a,b);"
            + "row t(?u,?v) if ?u=31&?v=16;row t(1,1);always ?u=?u;");
        due("WORLDS that hold", x.count(0), 1024);
        due("all WORLDS", x.count(1), 1024);
        due("the first", x.value(0, 0), -32);
        due("the last", x.value(1023, 0), 31);
        due("the last, its second UNKNOWN", x.value(1023, 1), 16);
        due("none more", x.value(1024, 0), NO);
        due("the last but one has one row", x.size(0, 1022), 1);
        due("the last has two", x.size(0, 1023), 2);
        due("none more has any", x.size(0, 1024), -1);
        due("many", x.many(0, 0), 1);
        due("many in all", x.many(0, 1), 1024);
        due("holds in the last", x.holds(0, 0, 1023), true);
        due("and not ahead of it", x.holds(0, 0, 1022), false);
        due("MAYBE", listed(x, 0, false), "1,1/1024 31,16/1");
        due("SURE", listed(x, 0, true), "1,1");
        due("ask of the last", Check.ask(x, "?u=31&?v=16"), 1);
        due("ask of all", Check.ask(x, "1=1"), 1024);
        due("learn all but the last", Check.learn(x, "!(?u=31&?v=16)"), 1023);
        due("the last is another", x.value(1023, 0), NO);
        due("the last now", x.value(1022, 1), 15);
        due("learn one alone", Check.learn(x, "?u=-32&?v=1"), 1);
        due("it is the first", x.value(0, 0), -32);
        due("it cannot be", Check.ask(x, "?u=31&?v=16"), 0);
        due("by the first that is learned", x.why(0), 1);
        due("alone", x.why(1), -1);
    }

    private static void due(String what, boolean got, boolean want) {
        CHECK.due(what, got, want);
    }

    /** Eight UNKNOWNS may be. */
    private static void mostUnknowns() {
        StringBuilder text = new StringBuilder();
        for (int u = 0; u < 8; u++) {
            text.append("unknown u").append(u).append(u < 5 ? ":0..3;" : ":" + u + ";");
        }
        DimShelf x = CHECK.shelf(text + "table t(a,b,c,d);row t(?u7,?u0,?u4,?u3);");
        due("UNKNOWNS", x.count(2), 8);
        for (int k = 0; k < 1024; k += 31) {
            for (int u = 0; u < 8; u++) {
                due("value " + k + " " + u, x.value(k, u), u < 5 ? k >> 2 * (4 - u) & 3 : u);
            }
        }
        due("no ninth", x.value(0, 8), NO);
        due("TERMS", terms(x, 0), "?7,?0,?4,?3/1024");
        due("a row of the last WORLD", rows(x, 0, 1023), "7,3,3,3");
        due("a row of another", rows(x, 0, 6), "7,0,2,1");
    }

    /** "PARTS are the CONDs of always, numbered from 0 on, then those that are learned." */
    private static void partsAreNumbered() {
        DimShelf x = CHECK.shelf("unknown u:1..5;always ?u!=1;table t(a);always ?u!=2;");
        due("learn", Check.learn(x, "?u!=3"), 2);
        due("learn", Check.learn(x, "?u!=4"), 1);
        due("PARTS", x.count(4), 4);
        due("learned", x.count(5), 2);
        for (int part = 0; part < 4; part++) {
            due("ask", Check.ask(x, "?u=" + (part + 1)), 0);
            due("why", x.why(0), part);
            due("no other", x.why(1), -1);
        }
        due("undo", x.undo(), true);
        due("the last that was asked can be", x.why(0), -1);
        due("learn another", Check.learn(x, "?u<4"), -2);
        due("learn another", Check.learn(x, "?u<5"), 1);
        due("it has the number of the one undone", x.why(0), -1);
        due("ask", Check.ask(x, "?u=5"), 0);
        due("it has that number", x.why(0), 3);
    }

    /** Twelve PARTS of always and eight that are learned: all twenty are WHY. */
    private static void mostParts() {
        StringBuilder text = new StringBuilder("unknown u:0..20;");
        for (int u = 0; u < 12; u++) {
            text.append("always ?u!=").append(u).append(';');
        }
        DimShelf x = CHECK.shelf(text.toString());
        for (int u = 12; u < 20; u++) {
            due("learn", Check.learn(x, "?u!=" + u), 20 - u);
        }
        due("PARTS", x.count(4), 20);
        due("learned", x.count(5), 8);
        due("ask", Check.ask(x, "?u!=20"), 0);
        for (int part = 0; part < 20; part++) {
            due("why", x.why(part), part);
        }
        due("no more", x.why(20), -1);
        due("ask of the last", Check.ask(x, "?u=19"), 0);
        due("why", x.why(0), 19);
        due("no more", x.why(1), -1);
        due("a ninth", Check.learn(x, "1=1"), -3);
        due("it is no PART", x.count(4), 20);
        due("undo", x.undo(), true);
        due("it can be", x.why(0), -1);
        due("ask", Check.ask(x, "?u<19"), 0);
        due("nineteen", x.why(18), 18);
        due("and no more", x.why(19), -1);
    }

    /** A TABLE without ROWS, or without rows in any WORLD. */
    private static void emptyTables() {
        DimShelf x = CHECK.shelf("unknown u:1..2;table e(a,b);table f(a,b);row f(1,1) if ?u=3;row f(?u,2) if 1=2;"
            + "table g(a,b);row g(1,1) if ?u=1;always ?u=2;");
        for (int t = 0; t < 3; t++) {
            due("ROWS", x.table(t, 0), new int[] {0, 2, 1}[t]);
            due("COLUMNS", x.table(t, 1), 2);
            for (int what = 2; what < 7; what++) {
                due("table " + t + " " + what, x.table(t, what), 0);
            }
            due("size", x.size(t, 0), 0);
            due("cell", x.cell(t, 0, 0, 0), NO);
            due("sure", x.sure(t, 0, 0), NO);
            due("maybe", x.maybe(t, 0, 0), NO);
            due("often", x.often(t, 0), -1);
            due("many", x.many(t, 0), t == 0 ? -1 : 0);
            due("holds", x.holds(t, 0, 0), false);
            due("term", x.term(t, 0, 0, 1), t == 0 ? NO : 1);
            for (int s = 0; s < 3; s++) {
                due("same", x.same(t, s), -1);
            }
        }
    }

    /** "with a CONDITION (none: it always holds)". */
    private static void conditions() {
        DimShelf x = CHECK.shelf("unknown u:1..3;table t(a);row t(7);row t(8) if ?u=1|?u=3&1=1;row t(9) if !1=1;");
        due("in how many", terms(x, 0), "7/3 8/2 9/0");
        due("in the first", rows(x, 0, 0), "7 8");
        due("in the second", rows(x, 0, 1), "7");
        due("in the third", rows(x, 0, 2), "7 8");
        due("holds", x.holds(0, 1, 2), true);
        due("holds not", x.holds(0, 1, 1), false);
    }

    /** "by the TERMS' values; alike ones are one". */
    private static void alikeOnes() {
        DimShelf x = CHECK.shelf("unknown u:1..2;unknown v:1..2;table t(a,b);row t(?u,?v);row t(?v,?u);row t(1,1);"
            + "row t(1,1) if ?u=2;row t(2,2);");
        due("ROWS", x.table(0, 0), 5);
        due("rows", rows(x, 0, 0), "1,1 2,2");
        due("rows", rows(x, 0, 1), "1,1 1,2 2,1 2,2");
        due("the least number", x.table(0, 3), 2);
        due("the greatest number", x.table(0, 4), 4);
        due("MAYBE", listed(x, 0, false), "1,1/4 1,2/2 2,1/2 2,2/4");
        due("SURE", listed(x, 0, true), "1,1 2,2");
    }

    /** "AN ANSWER is worked out where it stands (of ROWS told by then)." */
    private static void ofRowsToldByThen() {
        DimShelf x = CHECK.shelf("table t(a);answer a=t;answer b=t#()count n;row t(1);answer c=t;answer d=t#()count n;"
            + "row t(2);answer e=t*c;always 1=1;row t(3);answer f=t-c;");
        due("the TABLE", terms(x, 0), "1/1 2/1 3/1");
        due("ahead of all", terms(x, 1), "");
        due("a group ahead of all", terms(x, 2), "");
        due("behind one", terms(x, 3), "1/1");
        due("a group behind one", terms(x, 4), "1/1");
        due("behind two", terms(x, 5), "1/1 2/0");
        due("behind all", terms(x, 6), "1/0 2/1 3/1");
    }

    /** Each sign and step of TABLES without ROWS. */
    private static void emptySides() {
        DimShelf x = CHECK.shelf("table t(a,b);row t(1,2);table e(a,b);answer q=e[a=1,2=2]+e;answer r=t*e+e*t-e;"
            + "answer s=t+e;answer u=e+t;answer v=t-e;answer w=e-t;answer y=e:(b){c=b}#()sum c n;answer z=e#(a,b)least b n;");
        for (int t : new int[] {1, 2, 3, 7, 8, 9}) {
            due("ROWS of " + t, terms(x, t), "");
        }
        for (int t : new int[] {4, 5, 6}) {
            due("ROWS of " + t, terms(x, t), "1,2/1");
        }
        due("COLUMNS of a group", x.table(9, 1), 3);
        due("COLUMNS of one without brackets", x.table(8, 1), 1);
        x = CHECK.shelf("unknown u:1..2;table t(a);row t(?u) if ?u=1;answer y=t[a=2]#()count n;answer z=t#()most a n;");
        due("no row in any WORLD", terms(x, 1), "");
        due("one in some", terms(x, 2), "1/1");
        due("in the first", rows(x, 2, 0), "1");
        due("none in the second", rows(x, 2, 1), "");
    }

    /** Six COLUMNS may come. */
    private static void widest() {
        DimShelf x = CHECK.shelf("unknown u:7..8;table t(a,b,c);row t(1,2,?u);table s(d,e,f);row s(4,?u,6);answer w=t*s;"
            + "answer p=w:(f,e,d,c,b,a);answer g=w#(a,b,c,d,f)sum e n;answer m=w+w-w[e=7];answer n=w{z=f}[z=6,e=8];");
        due("a join", terms(x, 2), "1,2,?0,4,?0,6/2");
        due("its rows", rows(x, 2, 1), "1,2,8,4,8,6");
        due("all COLUMNS", terms(x, 3), "6,?0,4,?0,2,1/2");
        due("a group", terms(x, 4), "1,2,7,4,6,7/1 1,2,8,4,6,8/1");
        due("a difference", listed(x, 5, false), "1,2,8,4,8,6/1");
        due("tests", terms(x, 6), "1,2,?0,4,?0,6/1");
        due("the sixth COLUMN", x.cell(2, 0, 0, 5), 6);
        due("no seventh", x.cell(2, 0, 0, 6), NO);
        due("no seventh of a TERM", x.term(2, 0, 6, 0), NO);
        due("MAYBE", listed(x, 3, false), "6,7,4,7,2,1/1 6,8,4,8,2,1/1");
        due("same", x.same(2, 6), 0);
        due("same in the other", x.same(4, 4), -1);
    }

    /** "[ ]: the same ROWS, if all TESTS hold, too": each REL below, at and above. */
    private static void tests() {
        String[] rels = {"=", "!=", "<", "<="};
        String[] wants = {"0", "-1 1", "-1", "-1 0"};
        for (int i = 0; i < rels.length; i++) {
            DimShelf x = CHECK.shelf("unknown u:-1..1;table t(a);row t(-1);row t(0);row t(1);answer x=t[a" + rels[i]
                + "0];answer y=t[a" + rels[i] + "?u];answer z=t[?u" + rels[i] + "0];");
            due("against a number " + rels[i], rows(x, 1, 0), wants[i]);
            due("against an UNKNOWN " + rels[i], rows(x, 2, 1), wants[i]);
            String all = (" " + wants[i] + " ").contains(" -1 ") ? "-1 0 1" : "";
            due("of an UNKNOWN " + rels[i], rows(x, 3, 0), all);
            due("the ROWS stay " + rels[i], x.table(3, 0), 3);
            due("ask " + rels[i], Check.ask(x, "?u" + rels[i] + "0"), wants[i].split(" ").length);
            due("ask of - 0 " + rels[i], Check.ask(x, "?u" + rels[i] + "-0"), wants[i].split(" ").length);
        }
    }

    /** "if both are there and alike in all COLUMNS that both have (A's TERMS stand)". */
    private static void joins() {
        DimShelf x = CHECK.shelf("unknown u:1..2;table t(a,b);row t(?u,1);row t(2,2) if ?u=1;table s(b,a);row s(1,2);"
            + "row s(?u,?u) if ?u=1;table r(c);row r(0);answer p=t*s;answer q=t*r;answer v=r*t;answer w=s*t;");
        due("all COLUMNS are of both", terms(x, 3), "?0,1/1 ?0,1/1 2,2/0 2,2/0");
        due("none is", terms(x, 4), "?0,1,0/2 2,2,0/1");
        due("none is, the other way", terms(x, 5), "0,?0,1/2 0,2,2/1");
        due("the TERMS of the left one stand", terms(x, 6), "1,2/1 1,2/0 ?0,?0/1 ?0,?0/0");
    }

    /** "the ROWS of A, if there is none of B that is there and alike in all COLUMNS". */
    private static void differences() {
        DimShelf x = CHECK.shelf("unknown u:1..3;table t(a,b);row t(?u,1);row t(1,1);row t(2,1) if ?u=2;table s(a,b);"
            + "row s(1,1) if ?u!=3;row s(2,2);answer d=t-s;answer n=t-(t-s);");
        due("a difference", terms(x, 2), "?0,1/2 1,1/1 2,1/1");
        due("of a difference", terms(x, 3), "?0,1/1 1,1/2 2,1/0");
    }

    /** "one row: these COLUMNS, and how many there are, or the least, the greatest, the sum of that COLUMN". */
    private static void groups() {
        String told = "table t(a,b);row t(1,-5);row t(1,5);row t(1,5);row t(-1,0);";
        String[] folds = {"count", "least b", "most b", "sum b", "least a", "most a", "sum a"};
        String[] wants = {"-1,1/1 1,2/1", "-1,0/1 1,-5/1", "-1,0/1 1,5/1", "-1,0/1 1,0/1", "-1,-1/1 1,1/1",
            "-1,-1/1 1,1/1", "-1,-1/1 1,2/1"};
        String[] alls = {"3/1", "-5/1", "5/1", "0/1", "-1/1", "1/1", "1/1"};
        String[] each = {"-1,0,1/1 1,-5,1/1 1,5,1/1", "-1,0,0/1 1,-5,-5/1 1,5,5/1", "-1,0,0/1 1,-5,-5/1 1,5,5/1",
            "-1,0,0/1 1,-5,-5/1 1,5,5/1", "-1,0,-1/1 1,-5,1/1 1,5,1/1", "-1,0,-1/1 1,-5,1/1 1,5,1/1",
            "-1,0,-1/1 1,-5,1/1 1,5,1/1"};
        for (int i = 0; i < folds.length; i++) {
            DimShelf x = CHECK.shelf(told + "answer x=t#(a)" + folds[i] + " n;answer y=t#()" + folds[i]
                + " n;answer z=t#(a,b)" + folds[i] + " n;");
            due("of a COLUMN: " + folds[i], terms(x, 1), wants[i]);
            due("of none: " + folds[i], terms(x, 2), alls[i]);
            due("of all: " + folds[i], terms(x, 3), each[i]);
        }
    }

    /** "all that come so in some WORLD (whether PARTS hold there or not), of values, in their order". */
    private static void groupsOfWorlds() {
        DimShelf x = CHECK.shelf("unknown u:2,-2,0;table t(a,b);row t(?u,5);row t(0,?u);row t(0,9) if ?u=0;always ?u!=-2;"
            + "answer x=t#(a)sum b n;answer y=t#(b)count n;always ?u!=2;answer z=t#()most b n;");
        due("by the first COLUMN, then by what comes", terms(x, 1), "-2,5/0 0,-2/0 0,2/0 0,14/1 2,5/0");
        due("counts", terms(x, 2), "-2,1/0 0,1/1 2,1/0 5,1/1 9,1/1");
        due("without brackets", terms(x, 3), "5/0 9/1");
        due("in the WORLD that holds", rows(x, 1, 0), "0,14");
        due("MAYBE rows are of WORLDS that hold", listed(x, 1, false), "0,14/1");
    }

    /** Thirty ROWS in a TABLE told and in answers. */
    private static void fullTables() {
        StringBuilder text = new StringBuilder("unknown u:0..1;table t(a,b);");
        for (int r = 0; r < 30; r++) {
            text.append("row t(").append(29 - r).append(",").append(r == 29 ? "?u" : "1").append(");");
        }
        DimShelf x = CHECK.shelf(text + "answer w=t[a!=3]-t[a=4];answer y=t:(a)#(a)count n;answer z=y:(a);"
            + "answer v=t#()sum b n;");
        due("ROWS", x.table(0, 0), 30);
        due("the last ROW", x.term(0, 29, 1, 0), 1);
        due("no ROW more", x.term(0, 30, 0, 0), NO);
        due("many of the last", x.many(0, 29), 2);
        due("many of no more", x.many(0, 30), -1);
        due("rows", x.size(0, 0), 30);
        due("the first of the rows is the last of the ROWS", x.cell(0, 1, 0, 1), 1);
        due("the last of the rows", x.cell(0, 0, 29, 0), 29);
        due("no row more", x.cell(0, 0, 30, 0), NO);
        due("SURE rows", x.table(0, 5), 29);
        due("MAYBE rows", x.table(0, 6), 31);
        due("the last SURE row", x.sure(0, 28, 0), 29);
        due("no SURE row more", x.sure(0, 29, 0), NO);
        due("the last MAYBE row", x.maybe(0, 30, 0), 29);
        due("no MAYBE row more", x.maybe(0, 31, 0), NO);
        due("of a difference", x.table(1, 4), 28);
        due("its ROWS", x.table(1, 0), 30);
        due("groups", x.table(2, 0), 30);
        due("of groups", x.table(3, 5), 30);
        due("sums of them", listed(x, 4, false), "29/1 30/1");
        due("holds of the last", x.holds(0, 29, 1), true);
        due("and of none more", x.holds(0, 30, 1), false);
        due("nor of the 32nd and further", x.holds(0, 32, 1) || x.holds(0, 61, 1) || x.holds(0, 64, 1), false);
    }

    /** A TABLE of sixteen rows, and an answer of one that is the number times two to the 20th. */
    private static String raised(int number, String behind) {
        StringBuilder text = new StringBuilder("table s(n);row s(" + number + ");table k(i);");
        String q = "s";
        for (int i = 0; i < 16; i++) {
            text.append("row k(").append(i).append(");");
        }
        for (int i = 0; i < 5; i++) {
            q = "(" + q + "*k)#()sum n n";
        }
        return text + "table j(i);row j(0);row j(1);answer h=" + q + ";" + behind;
    }

    /** "Sums are ints of 32 bits that wrap": the last that does not, the first that does, both ways. */
    private static void sumsThatWrap() {
        int top = Integer.MAX_VALUE;
        int low = Integer.MIN_VALUE;
        int[][] sums = {{1024, 1, low, low + 1}, {1024, 0, low, low}, {1024, -1, low, top}, {1023, 9999, low - (1 << 21),
            low - (1 << 21) + 9999}, {-1024, 1, low, low + 1}, {-1024, 0, low, low}, {-1024, -1, low, top}, {-1024, -9999, low,
            top - 9998}, {-1025, -1, low - (1 << 21), low - (1 << 21) - 1}};
        for (int[] sum : sums) {
            DimShelf x = CHECK.shelf(raised(sum[0], "table o(n,i);row o(" + sum[1] + ",2);answer z=h*j;answer a=z#()sum n n;"
                + "answer b=(o+z)#()sum n n;answer c=(o+z)#()count n;"));
            String what = sum[0] + " and " + sum[1];
            due("of " + what, terms(x, 3), sum[0] * (1 << 20) + "/1");
            due("two of " + what, terms(x, 6), sum[2] + "/1");
            due("two and one of " + what, terms(x, 7), sum[3] + "/1");
            due("as a SURE row " + what, x.sure(7, 0, 0), sum[3]);
            due("as a MAYBE row " + what, x.maybe(7, 0, 0), sum[3]);
            due("as a cell " + what, x.cell(7, 0, 0, 0), sum[3]);
            due("as a TERM " + what, x.term(7, 0, 0, 1), sum[3]);
            due("how many " + what, terms(x, 8), "3/1");
        }
    }

    /** Wrapped sums are values like others: compared, grouped, listed in their order. */
    private static void wrappedValues() {
        DimShelf x = CHECK.shelf("unknown u:0..1;" + raised(1024, "table o(n,i);row o(-1,2);answer a=(h*j+o[?u=1])#()sum n n;"
            + "answer b=a[n<0];answer c=a[0<n];answer d=(a+o:(n))#()least n n;answer e=(a+o:(n))#()most n n;"));
        int top = Integer.MAX_VALUE;
        int low = Integer.MIN_VALUE;
        due("both ends", terms(x, 5), low + "/1 " + top + "/1");
        due("their order", listed(x, 5, false), low + "/1 " + top + "/1");
        due("the first WORLD", rows(x, 5, 0), "" + low);
        due("below 0", rows(x, 6, 0) + "|" + rows(x, 6, 1), low + "|");
        due("above 0", rows(x, 7, 0) + "|" + rows(x, 7, 1), "|" + top);
        due("the least", rows(x, 8, 0) + "|" + rows(x, 8, 1), low + "|-1");
        due("the greatest", rows(x, 9, 0) + "|" + rows(x, 9, 1), "-1|" + top);
    }

    /** "SURE .. in each WORLD that holds, MAYBE .. in some; both in their order". */
    private static void listed() {
        DimShelf x = CHECK.shelf("unknown u:3,1,2;table t(a,b);row t(?u,0);row t(2,-1);row t(2,0) if ?u!=2;row t(2,-9) if ?u=1;");
        due("MAYBE", listed(x, 0, false), "1,0/1 2,-9/1 2,-1/3 2,0/3 3,0/1");
        due("SURE", listed(x, 0, true), "2,-1 2,0");
        due("learn", Check.learn(x, "?u=1"), 1);
        due("MAYBE in one WORLD", listed(x, 0, false), "1,0/1 2,-9/1 2,-1/1 2,0/1");
        due("SURE in one WORLD", listed(x, 0, true), "1,0 2,-9 2,-1 2,0");
        due("undo", x.undo(), true);
        due("MAYBE again", listed(x, 0, false), "1,0/1 2,-9/1 2,-1/3 2,0/3 3,0/1");
    }

    /** As many MAYBE rows as there can be: thirty in each of 1,024 WORLDS, all of them others. */
    private static void mostListed() {
        StringBuilder text = new StringBuilder("unknown u:0..31;unknown v:0..31;table t(a,b,c);");
        for (int r = 0; r < 30; r++) {
            text.append("row t(?v,").append(r).append(",?u);");
        }
        DimShelf x = CHECK.shelf(text.toString());
        due("MAYBE rows", x.table(0, 6), 30720);
        due("SURE rows", x.table(0, 5), 0);
        int[] some = {0, 1, 31, 32, 959, 960, 12345, 30719};
        for (int i : some) {
            due("its first COLUMN", x.maybe(0, i, 0), i / 960);
            due("its second COLUMN", x.maybe(0, i, 1), i / 32 % 30);
            due("its third COLUMN", x.maybe(0, i, 2), i % 32);
            due("its WORLDS", x.often(0, i), 1);
        }
        due("no row more", x.maybe(0, 30720, 0), NO);
        due("nor its WORLDS", x.often(0, 30720), -1);
        due("no SURE row", x.sure(0, 0, 0), NO);
        due("learn", Check.learn(x, "?u=?v"), 32);
        fewerListed(x, 32, 1);
        for (int left : new int[] {31, 5, 3}) {
            due("learn", Check.learn(x, "?u<" + left), left);
            fewerListed(x, left, 1);
        }
        due("learn", Check.learn(x, "?u!=1"), 2);
        fewerListed(x, 2, 2);
    }

    /** The WORLDS left have 30 rows each: all of one UNKNOWN's value, which goes up by the step. */
    private static void fewerListed(DimShelf x, int left, int step) {
        due("MAYBE rows of " + left, x.table(0, 6), left * 30);
        for (int i = 7; i < left * 30; i += left > 5 ? 97 : 11) {
            due("MAYBE row " + i + " of " + left, x.maybe(0, i, 0), i / 30 * step);
            due("its second COLUMN", x.maybe(0, i, 1), i % 30);
            due("its third COLUMN", x.maybe(0, i, 2), i / 30 * step);
            due("its WORLDS", x.often(0, i), 1);
        }
        due("no row more", x.maybe(0, left * 30, 0), NO);
    }

    /** One WORLD that holds: all of its rows are SURE. */
    private static void oneWorld() {
        DimShelf x = CHECK.shelf("unknown u:1..9;always ?u=9;table t(a);row t(?u);row t(1) if ?u=1;answer x=t#()count n;");
        due("WORLDS", x.count(0), 1);
        due("all", x.count(1), 9);
        due("SURE", listed(x, 0, true), "9");
        due("MAYBE", listed(x, 0, false), "9/1");
        due("the group's ROWS", terms(x, 1), "1/1");
        due("same", x.same(0, 1), 0);
        due("learn of it", Check.learn(x, "?u=9"), 1);
        due("learn against it", Check.learn(x, "?u!=9"), -2);
    }

    /** "The first of the WORLDS that hold in which t and s have not the same rows". */
    private static void sameRows() {
        DimShelf x = CHECK.shelf("unknown u:1..4;table t(a);row t(1);row t(?u);table s(z);row s(1) if ?u=4;row s(1) if ?u!=4;"
            + "row s(4) if ?u=4;row s(2) if ?u=2;table r(a);row r(1);row r(?u) if ?u<4;table q(a,b);table p(a);row p(?u);");
        due("in the third", x.same(0, 1), 2);
        due("in the third, the other way", x.same(1, 0), 2);
        due("in the last alone", x.same(0, 2), 3);
        due("in the first they are", x.same(0, 4), 1);
        due("not as many COLUMNS", x.same(0, 3), -2);
        due("not as many COLUMNS, the other way", x.same(3, 0), -2);
        due("itself", x.same(3, 3), -1);
        due("learn", Check.learn(x, "?u!=3"), 3);
        due("in none that holds", x.same(0, 1), -1);
        due("in the last, that is the third now", x.same(0, 2), 2);
        due("learn", Check.learn(x, "?u!=4"), 2);
        due("in none", x.same(0, 2), -1);
    }

    /** "of the sets of PARTS with which it holds in no WORLD at all the smallest". */
    private static void whyOfOne() {
        DimShelf x = CHECK.shelf("unknown u:1..4;unknown v:1..4;always ?u<3|?v<3;always ?u!=4;always ?v!=4;");
        due("ask", Check.ask(x, "?u=4&?v=4"), 0);
        due("each alone is enough: the least", x.why(0), 0);
        due("no other", x.why(1), -1);
        due("ask of what can be", Check.ask(x, "?u=3"), 2);
        due("it can be", x.why(0), -1);
        due("ask of what is in no WORLD", Check.ask(x, "?u=5"), 0);
        due("no PART is needed", x.why(0), -1);
        due("ask", Check.ask(x, "?u=4&?v!=4"), 0);
        due("the second alone", x.why(0), 1);
        due("learn", Check.learn(x, "?u=1"), 3);
        due("the second still", x.why(0), 1);
        due("ask of what was learned away", Check.ask(x, "?u=2"), 0);
        due("the learned one", x.why(0), 3);
        due("undo", x.undo(), true);
        due("it can be again", x.why(0), -1);
        due("below 0", x.why(-1), -1);
    }

    /** "of these that whose first PART has the least number, then whose second one has, and so on". */
    private static void whyOfMany() {
        DimShelf x = CHECK.shelf("unknown u:1..8;always ?u<7;always ?u!=1&?u!=2;always ?u!=3&?u!=4;always ?u!=1&?u!=3;"
            + "always ?u!=2&?u!=4;");
        due("ask", Check.ask(x, "?u<5"), 0);
        due("two pairs are: the first", x.why(0), 1);
        due("its second", x.why(1), 2);
        due("no third", x.why(2), -1);
        due("ask of more", Check.ask(x, "?u<5|6<?u"), 0);
        due("three: the first", x.why(0), 0);
        due("the second", x.why(1), 1);
        due("the third", x.why(2), 2);
        due("no fourth", x.why(3), -1);
        x = CHECK.shelf("unknown u:1..7;always ?u!=1;always ?u!=1&?u!=2;always ?u!=3&?u!=1;always ?u!=2&?u!=3;always ?u!=3;");
        due("ask", Check.ask(x, "?u<=3"), 0);
        due("the least first, though a later one hits more", x.why(0), 0);
        due("and the least second with it", x.why(1), 3);
        due("two", x.why(2), -1);
        due("learn", Check.learn(x, "3<?u"), 4);
        due("one is smaller than two", x.why(0), 5);
        due("alone", x.why(1), -1);
    }

    /** "Else it is the shelf: nothing is learned, nothing was asked." */
    private static void readForgets() {
        DimShelf x = CHECK.shelf("unknown u:1..3;always ?u<3;table t(a);row t(?u);");
        for (String text : new String[] {"", "unknown u:1..3;always ?u<3;table t(a);row t(?u);", "always 2=2;unknown w:1;"}) {
            due("learn", Check.learn(x, "1=1"), x.count(0));
            due("ask", Check.ask(x, x.count(2) > 0 ? "?u=3" : "1=1"), x.count(2) > 0 ? 0 : 1);
            due("why", x.why(0), x.count(2) > 0 ? 0 : -1);
            due("read", Check.read(x, text), 0);
            due("nothing is learned", x.count(5), 0);
            due("nothing is to be undone", x.undo(), false);
            due("nothing was asked", x.why(0), -1);
            due("no place", x.place(), -1);
            due("PARTS", x.count(4), text.contains("always") ? 1 : 0);
            due("UNKNOWNS", x.count(2), text.isEmpty() ? 0 : 1);
        }
        due("its WORLDS", x.count(1), 1);
        due("no TABLE", x.table(0, 0), -1);
    }

    /** The tape is one for read, learn and ask: each takes it all. */
    private static void tape() {
        DimShelf x = CHECK.shelf("unknown u:1..3;");
        Check.put(x, "?u=");
        Check.put(x, "2|?u=3");
        due("bytes", x.count(6), 9);
        due("learn", x.learn(), 2);
        due("what is left of it", x.count(6), 0);
        due("learn of none", x.learn(), -1);
        due("at its end", x.place(), 0);
        Check.put(x, "?u=3");
        due("ask", x.ask(), 1);
        due("ask of none", x.ask(), -1);
        due("a back of nothing", x.back(0), 0);
        due("read of none", x.read(), 0);
        due("an empty shelf", x.count(2), 0);
    }

    /** "An object is used for at most 512 calls": the last is answered as the first. */
    private static void lastCalls() {
        DimShelf x = new DimShelf();
        due("feed", x.feed(0x756e6b6e, 0x6f776e20, 0x753a312e, 0x2e323b20, 0x20202020), 20);
        due("read", x.read(), 0);
        for (int call = 2; call < 512; call += 5) {
            due("feed", x.feed(0x3f753d32, 0x20202020, 0x20202020, 0x20202020, 0x20202020), 20);
            due("learn", x.learn(), 1);
            due("value", x.value(0, 0), 2);
            due("undo", x.undo(), true);
            due("WORLDS", x.count(0), 2);
        }
        x = CHECK.shelf("unknown u:0..31;unknown v:0..31;table t(a,b);row t(?u,?v);row t(?v,?u);table s(b,a);row s(?v,?u);");
        for (int call = 20; call < 512; call += 3) {
            due("MAYBE", x.table(0, 6), 1024);
            due("MAYBE of the other", x.table(1, 6), 1024);
            due("same", x.same(0, 1), 1);
        }
    }

    /** A tape of the text without its last byte. */
    private static DimShelf shortened(String told, String text) {
        DimShelf x = CHECK.shelf(told);
        Check.put(x, text);
        due("back", x.back(1), text.length() - 1);
        return x;
    }

    /** "The last n bytes of the tape go": no TOKEN goes on with them. */
    private static void bytesThatWent() {
        due("a NUMBER", shortened("unknown u:1,12;", "?u=12").ask(), 1);
        due("a NUMBER that is learned", shortened("unknown u:1,2,12;always ?u!=2;", "?u<=12").learn(), 1);
        String[] texts = {"unknown abcdefghi", "unknown u:12345", "unknown u:1..", "always !=", "always 1<=", "unknown u:1;$"};
        int[] places = {16, 14, 11, 8, 9, -1};
        for (int i = 0; i < texts.length; i++) {
            DimShelf x = shortened("", texts[i]);
            due("read of " + texts[i] + " without its last byte", x.read(), places[i] < 0 ? 0 : 1);
            due("place in " + texts[i] + " without its last byte", x.place(), places[i]);
        }
    }

    /** A text of 8 UNKNOWNS, 10 TABLES, 30 rows, 40 signs, 12 PARTS and a list of 16. */
    private static String full() {
        StringBuilder text = new StringBuilder("unknown u0:0,1,2,3,4,5,6,7,8,9,10,11,12,13,14,15;table t(a,b,c,d);");
        for (int i = 1; i < 8; i++) {
            text.append("unknown u").append(i).append(":1;");
        }
        for (int i = 0; i < 30; i++) {
            text.append("row t(?u0,").append(i).append(",1,1) if ?u0!=").append(i).append(';');
        }
        for (int i = 0; i < 8; i++) {
            text.append("answer x").append(i).append("=t-t-t-t-t;");
        }
        return text + "answer x8=(t-t-t-t-t-t-t-t)#()count b;" + "always ?u0=?u0;".repeat(12);
    }

    private static void dueOfFull(DimShelf x) {
        int[] counts = {16, 16, 8, 10, 12, 0, 0};
        for (int what = 0; what < counts.length; what++) {
            due("count " + what + " of a full text", x.count(what), counts[what]);
        }
        int[] told = {30, 4, 0, 29, 29, 0, 464};
        int[] answer = {30, 4, 1, 0, 0, 0, 0};
        for (int what = 0; what < told.length; what++) {
            due("the TABLE of a full text, " + what, x.table(0, what), told[what]);
            due("an answer of a full text, " + what, x.table(8, what), answer[what]);
            due("the last answer of a full text, " + what, x.table(9, what), what == 1 || what == 2 ? 1 : 0);
        }
    }

    /** What a text may have is counted anew for each text. */
    private static void readAgain() {
        for (int times = 1; times <= 4; times++) {
            DimShelf x = new DimShelf();
            for (int i = 0; i < times; i++) {
                due("read of a full text", Check.read(x, full()), 0);
            }
            dueOfFull(x);
            due("read of one TABLE more", Check.read(x, full() + "table z(a);"), 2);
            due("its place", x.place(), full().length() + 6);
            dueOfFull(x);
        }
    }

    private static final String LESS = "unknown u:5..6;table t(a,b);row t(?u,1) if 1=2;row t(1,1) if ?u=5;table s(c);"
        + "answer x=t+t;answer y=t*t+t-t;answer z=t#(a)count n;answer w=s#()count n;";

    /** Nothing of a text is left in the next ones. */
    private static void readLess() {
        DimShelf fresh = CHECK.shelf(LESS);
        for (int times = 1; times <= 2; times++) {
            DimShelf x = new DimShelf();
            for (int i = 0; i < times; i++) {
                due("read of a full text", Check.read(x, full()), 0);
                due("ask", Check.ask(x, "?u0=16"), 0);
            }
            due("read of a lesser one", Check.read(x, LESS), 0);
            Look look = Look.at(x);
            look.due(CHECK, "a lesser text", Look.at(fresh));
            CHECK.due("no more than 512 calls", 100 * times + look.calls() + 20 <= 512, true);
            due("no ROW more", x.holds(0, 2, 0), false);
            due("no TERM more", x.term(0, 2, 0, 0), NO);
            due("no TABLE more", x.table(6, 0), -1);
        }
    }

    /** A text behind two that have more UNKNOWNS, of more values. */
    private static void readFewerUnknowns() {
        DimShelf x = new DimShelf();
        for (int i = 0; i < 2; i++) {
            due("read of five", Check.read(x, "unknown u:1..2;unknown v:1..3;unknown w:1..4;unknown y:1..5;unknown z:1..6;"), 0);
        }
        due("WORLDS of five", x.count(1), 720);
        due("read of two", Check.read(x, "unknown u:5..7;unknown v:8,3;"), 0);
        due("WORLDS of two", x.count(1), 6);
        for (int k = 0; k < 6; k++) {
            due("the first UNKNOWN in " + k, x.value(k, 0), 5 + k / 2);
            due("the second UNKNOWN in " + k, x.value(k, 1), k % 2 == 0 ? 8 : 3);
            due("no third", x.value(k, 2), NO);
        }
    }

    /** A difference of TABLES that have fewer ROWS than those of the two texts ahead. */
    private static void readFewerRows() {
        DimShelf x = new DimShelf();
        for (int i = 0; i < 2; i++) {
            due("read of two rows", Check.read(x, "table t(a);row t(1);row t(2);answer y=t-t;answer z=t-y-t;"), 0);
        }
        due("read of one", Check.read(x, "table t(a);row t(1);table s(a);row s(2);answer y=s-t;answer z=t-s;"), 0);
        due("s - t", rows(x, 2, 0), "2");
        due("t - s", rows(x, 3, 0), "1");
        due("ROWS of t", terms(x, 0), "1/1");
    }

    /** Many FAULTS deep within Qs, then a text without one. */
    private static void readBehindFaults() {
        String told = "table t(a);row t(1);row t(2);";
        String[] faults = {told + "answer x=t+t*(t+t*(t+t*(t+t*(t-zz))));", told + "answer x=t+t*(t-t*(t+t*(t+t*t*t*t*t)));"};
        String good = told + "answer x=t-t*(t-t*(t[a=2]-t[a=1]));answer y=(t*t)#(a)count n;";
        for (int fault = 0; fault < faults.length; fault++) {
            DimShelf x = new DimShelf();
            for (int i = 0; i < 50; i++) {
                due("read", Check.read(x, faults[fault]), fault == 0 ? 4 : 6);
            }
            due("read of a good text", Check.read(x, good), 0);
            due("an answer", rows(x, 1, 0), "2");
            due("a group", rows(x, 2, 0), "1,1 2,1");
        }
    }

    /** The names of the COLUMNS with the numbers, in this order. */
    private static String named(int[] order) {
        StringBuilder text = new StringBuilder();
        for (int column : order) {
            text.append(text.isEmpty() ? "" : ",").append((char) ('a' + column));
        }
        return text.toString();
    }

    /** One row: each COLUMN has a value of its own, one of them may be ?u instead. */
    private static String valued(int[] order, int unknown) {
        StringBuilder text = new StringBuilder();
        for (int column : order) {
            text.append(text.isEmpty() ? "" : ",").append(column == unknown ? "?u" : Integer.toString(column + 11));
        }
        return text.toString();
    }

    /** Each three of six COLUMNS in each order beside three: those that both have must be alike, the others come behind. */
    private static void joinsOfMany() {
        int[] left = {0, 1, 2};
        for (int n = 0; n < 216; n++) {
            int[] right = {n / 36, n / 6 % 6, n % 6};
            if (right[0] == right[1] || right[0] == right[2] || right[1] == right[2]) {
                continue;
            }
            StringBuilder row = new StringBuilder(valued(left, -1));
            for (int column : right) {
                row.append(column < 3 ? "" : "," + (column + 11));
            }
            for (int unknown : right) {
                DimShelf x = CHECK.shelf("unknown u:" + (unknown + 11) + ",7;table t(a,b,c);row t(" + valued(left, -1)
                    + ");table s(" + named(right) + ");row s(" + valued(right, unknown) + ");answer x=t*s;");
                due("the first WORLD of t * s(" + named(right) + ")", rows(x, 2, 0), row.toString());
                due("in how many " + named(right), x.many(2, 0), unknown < 3 ? 1 : 2);
                due("of the second " + named(right), x.size(2, 1), unknown < 3 ? 0 : 1);
            }
        }
    }

    /** Six COLUMNS of which one is not alike in one of two WORLDS. */
    private static void differencesOfMany() {
        int[] all = {0, 1, 2, 3, 4, 5};
        int[] first = {0, 1, 2};
        int[] last = {3, 4, 5};
        for (int unknown : all) {
            DimShelf x = CHECK.shelf("unknown u:" + (unknown + 11) + ",7;table t(a,b,c);table s(d,e,f);table p(a,b,c);"
                + "table q(d,e,f);row t(" + valued(first, -1) + ");row s(" + valued(last, -1) + ");row p("
                + valued(first, unknown) + ");row q(" + valued(last, unknown) + ");answer x=t*s-p*q;answer y=p*q-t*s;");
            due("all are alike in the first WORLD", rows(x, 4, 0), "");
            due("one is not in the second", rows(x, 4, 1), valued(all, -1));
            due("the other way", rows(x, 5, 0) + "|" + rows(x, 5, 1), "|" + valued(all, unknown).replace("?u", "7"));
        }
    }
}
