/** How ANSWERS are worked out: their ROWS, the rows they have in each WORLD, and the order of work. */
public final class AnswerTest {
    private static final Check CHECK = new Check();

    public static void main(String[] args) {
        tests();
        picks();
        renames();
        joins();
        sums();
        differences();
        groups();
        groupsOfWorlds();
        wrapping();
        places();
        order();
        parts();
        depths();
        CHECK.finish("AnswerTest");
    }

    /** The rows of the TABLE in the WORLD, as text. */
    private static String rows(DimShelf x, int t, int k) {
        StringBuilder text = new StringBuilder();
        for (int i = 0; i < x.size(t, k); i++) {
            text.append(i == 0 ? "" : " ");
            for (int c = 0; c < x.table(t, 1); c++) {
                text.append(c == 0 ? "" : ",").append(x.cell(t, k, i, c));
            }
        }
        return text.toString();
    }

    /** The ROWS of the TABLE: their TERMS, and in how many WORLDS each is there. */
    private static String terms(DimShelf x, int t) {
        StringBuilder text = new StringBuilder();
        for (int r = 0; r < x.table(t, 0); r++) {
            text.append(r == 0 ? "" : " ");
            for (int c = 0; c < x.table(t, 1); c++) {
                text.append(c == 0 ? "" : ",").append(x.term(t, r, c, 0) == 1 ? "?" : "").append(x.term(t, r, c, 1));
            }
            text.append('/').append(x.many(t, r));
        }
        return text.toString();
    }

    private static void due(String what, String got, String want) {
        CHECK.due(what + ": " + got + ", due is " + want, got.equals(want), true);
    }

    private static final String SHELF = "unknown u:1..3;unknown v:0,5;table t(a,b);row t(1,?u);row t(?v,2);"
        + "row t(3,3) if ?u<=?v;table s(b,c);row s(2,7);row s(?u,8) if ?v=0;";

    private static DimShelf answer(String q) {
        return CHECK.shelf(SHELF + "answer x=" + q + ";");
    }

    private static void tests() {
        due("all ROWS stay", terms(answer("t[a=1]"), 2), "1,?0/6 ?1,2/0 3,3/0");
        due("COLUMNS of two", terms(answer("t[a=b]"), 2), "1,?0/2 ?1,2/0 3,3/3");
        due("of an UNKNOWN", terms(answer("t[b=?u]"), 2), "1,?0/6 ?1,2/2 3,3/1");
        due("of TERMS alone", terms(answer("t[?u=?v,1=1]"), 2), "1,?0/0 ?1,2/0 3,3/0");
        due("all must hold", terms(answer("t[a<=b,b!=2]"), 2), "1,?0/4 ?1,2/0 3,3/3");
        due("one behind another", terms(answer("t[a<=b][b!=2]"), 2), "1,?0/4 ?1,2/0 3,3/3");
        due("below", terms(answer("t[b<a]"), 2), "1,?0/0 ?1,2/3 3,3/0");
        due("of a number below 0", terms(answer("t[-1<a,a!=-2]"), 2), "1,?0/6 ?1,2/6 3,3/3");
    }

    private static void picks() {
        DimShelf x = answer("t:(b)");
        due("one", terms(x, 2), "?0/6 2/6 3/3");
        due("alike ones are one", rows(x, 2, 2), "2");
        due("in this order", terms(answer("t:(b,a)"), 2), "?0,1/6 2,?1/6 3,3/3");
    }

    private static void renames() {
        due("the ROWS stay", terms(answer("t{c=a}"), 2), "1,?0/6 ?1,2/6 3,3/3");
        due("the new name", terms(answer("t{c=a}[c=3]"), 2), "1,?0/0 ?1,2/0 3,3/3");
        due("at the place of the old one", terms(answer("t{c=a}:(b,c)"), 2), "?0,1/6 2,?1/6 3,3/3");
        due("two change their names", terms(answer("t{c=a}{a=b}{b=c}:(a,b)"), 2), "?0,1/6 2,?1/6 3,3/3");
    }

    private static void joins() {
        DimShelf x = answer("t*s");
        due("for each ROW each ROW", terms(x, 2), "1,?0,7/2 1,?0,8/3 ?1,2,7/6 ?1,2,8/1 3,3,7/0 3,3,8/0");
        due("the rows of a WORLD", rows(x, 2, 2), "0,2,7 0,2,8 1,2,7 1,2,8");
        due("the rows of another", rows(x, 2, 3), "1,2,7 5,2,7");
        due("A's COLUMNS first", terms(answer("s*t"), 2), "2,7,1/2 2,7,?1/6 2,7,3/0 ?0,8,1/3 ?0,8,?1/1 ?0,8,3/0");
        due("without one in common", terms(answer("t:(a)*s:(c)"), 2), "1,7/6 1,8/3 ?1,7/6 ?1,8/3 3,7/3 3,8/0");
        due("with itself", terms(answer("t[a=3]:(a)*t:(a)"), 2), "1/0 1/0 1/0 ?1/0 ?1/0 ?1/0 3/0 3/0 3/3");
    }

    private static void sums() {
        due("the ROWS of A, then those of B", terms(answer("t+s{a=c}:(a,b)"), 2), "1,?0/6 ?1,2/6 3,3/3 7,2/6 8,?0/3");
        DimShelf x = answer("t+t");
        due("alike ones", terms(x, 2), "1,?0/6 ?1,2/6 3,3/3 1,?0/6 ?1,2/6 3,3/3");
        due("are one", rows(x, 2, 0), "0,2 1,1");
    }

    private static void differences() {
        due("without what is alike", terms(answer("t-t[b=2]"), 2), "1,?0/4 ?1,2/0 3,3/3");
        due("all alike in all COLUMNS", terms(answer("t:(b)-s:(b)"), 2), "?0/2 2/0 3/3");
        due("itself", terms(answer("t-t"), 2), "1,?0/0 ?1,2/0 3,3/0");
        due("without none", terms(answer("t-t[1=2]"), 2), "1,?0/6 ?1,2/6 3,3/3");
    }

    private static void groups() {
        String text = "table t(a,b);row t(2,5);row t(1,7);row t(1,-3);row t(1,-3);row t(2,5);row t(2,6);table e(a,b);answer x=";
        due("count", terms(CHECK.shelf(text + "t#(a)count n;"), 2), "1,2/1 2,2/1");
        due("least", terms(CHECK.shelf(text + "t#(a)least b n;"), 2), "1,-3/1 2,5/1");
        due("most", terms(CHECK.shelf(text + "t#(a)most b n;"), 2), "1,7/1 2,6/1");
        due("sum", terms(CHECK.shelf(text + "t#(a)sum b n;"), 2), "1,4/1 2,11/1");
        due("sum of what stands in the brackets", terms(CHECK.shelf(text + "t#(a)sum a n;"), 2), "1,2/1 2,4/1");
        due("no brackets", terms(CHECK.shelf(text + "t#()sum b b;"), 2), "15/1");
        due("of none", terms(CHECK.shelf(text + "e#()count n;"), 2), "");
        due("all COLUMNS", terms(CHECK.shelf(text + "t#(b,a)count n;"), 2), "-3,1,1/1 5,2,1/1 6,2,1/1 7,1,1/1");
        due("of alike rows one", terms(CHECK.shelf(text + "t:(a)#()sum a n;"), 2), "3/1");
        due("of groups", terms(CHECK.shelf(text + "t#(a)sum b n#()most n a;"), 2), "11/1");
    }

    private static void groupsOfWorlds() {
        DimShelf x = CHECK.shelf("unknown u:3,1,2;always ?u!=2;table t(a,b);row t(1,?u);row t(1,1);row t(?u,0) if ?u!=1;"
            + "answer x=t#(a)sum b n;answer y=t#()count n;answer z=t[?u=2]#(b)least a n;");
        due("all that come in some WORLD", terms(x, 1), "1,1/1 1,3/0 1,4/1 2,0/0 3,0/1");
        due("the first WORLD", rows(x, 1, 0), "1,4 3,0");
        due("the second", rows(x, 1, 1), "1,1");
        due("counts", terms(x, 2), "1/1 3/1");
        due("where PARTS do not hold, too", terms(x, 3), "0,2/0 1,1/0 2,1/0");
        Check.learn(x, "?u=3");
        due("the ROWS stay", terms(x, 1), "1,1/0 1,3/0 1,4/1 2,0/0 3,0/1");
    }

    private static void wrapping() {
        StringBuilder text = new StringBuilder("table t(a,b);table k(i);");
        int sum = 0;
        for (int i = 0; i < 30; i++) {
            text.append("row t(").append(i).append(",9999);row k(").append(i).append(");");
            sum += 9999;
        }
        String q = "t#()sum b n";
        for (int round = 0; round < 3; round++) {
            q = "(" + q + "*k)#()sum n n";
        }
        DimShelf x = CHECK.shelf(text + "answer s=" + q + ";answer w=s[n<0];");
        int want = sum * 30 * 30 * 30;
        CHECK.due("it wraps", want != sum * 27000L, true);
        CHECK.due("a sum that wraps", x.sure(2, 0, 0), want);
        CHECK.due("and is compared so", x.size(3, 0), want < 0 ? 1 : 0);
    }

    /** An ANSWER is of the ROWS told ahead of it alone. */
    private static void places() {
        DimShelf x = CHECK.shelf("table t(a);answer x=t;row t(1);answer y=t+x;row t(2);unknown u:5..6;row t(?u);"
            + "answer z=t-y;answer w=z;");
        due("nothing was told", terms(x, 1), "");
        due("one ROW was told", terms(x, 2), "1/2");
        due("all were told", terms(x, 3), "1/0 2/2 ?0/2");
        due("of an answer", terms(x, 4), "1/0 2/2 ?0/2");
        due("the TABLE itself", terms(x, 0), "1/2 2/2 ?0/2");
    }

    private static void order() {
        String text = "table a(k);row a(1);row a(2);table b(k);row b(2);table c(k);row c(1);row c(2);answer x=";
        due("from the left", rows(CHECK.shelf(text + "c-b+b;"), 3, 0), "1 2");
        due("brackets", rows(CHECK.shelf(text + "c-(b+b);"), 3, 0), "1");
        due("minus minus", rows(CHECK.shelf(text + "c-b-a;"), 3, 0), "");
        due("minus of a difference", rows(CHECK.shelf(text + "c-(b-a);"), 3, 0), "1 2");
        due("* ahead of -", rows(CHECK.shelf(text + "a-b*c;"), 3, 0), "1");
        due("* ahead of +", rows(CHECK.shelf(text + "a+b*b;"), 3, 0), "1 2");
        due("steps ahead of *", rows(CHECK.shelf(text + "a*c[k=1];"), 3, 0), "1");
        due("steps of brackets", rows(CHECK.shelf(text + "(a+c)[k=1];"), 3, 0), "1");
    }

    /** CONDs as they stand in rows and PARTS. */
    private static void parts() {
        DimShelf x = CHECK.shelf("unknown u:1..2;unknown v:1..2;always ?u=1|?v=1;table t(a);row t(1) if ?u=1&?v=1|?v=2;"
            + "row t(2) if !(?u=1|?v=1);row t(3) if !!?u<?v&!1=2;row t(4) if (?u=2);");
        CHECK.due("three WORLDS", x.count(0), 3);
        due("CONDITIONS", terms(x, 0), "1/2 2/0 3/1 4/1");
        due("the first", rows(x, 0, 0), "1");
        due("the second", rows(x, 0, 1), "1 3");
        due("the third", rows(x, 0, 2), "4");
    }

    /** As much of a Q and of a COND is open as can be. */
    private static void depths() {
        String q = "t+t*t";
        String cond = "?u=1|1=1&?u=2";
        for (int i = 0; i < 8; i++) {
            q = "t+t*(" + q + ")";
            cond = "2=1|1=1&(" + cond + ")";
        }
        DimShelf x = CHECK.shelf("unknown u:1..3;table t(a);row t(?u) if " + cond + ";answer x=" + q + ";");
        due("a Q", terms(x, 1), "?0/2" + " ?0/2".repeat(9));
        CHECK.due("a COND", Check.ask(x, cond), 2);
        CHECK.due("a COND of brackets and !", Check.ask(x, "!(!(!(!?u=3)))"), 1);
        CHECK.due("one ! more", Check.ask(x, "!(!(!(!!?u=3)))"), 2);
    }
}
