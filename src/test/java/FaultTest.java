/** The FAULTS of texts, each at its place (a ^ stands ahead of it), and their limits. */
public final class FaultTest {
    private static final int SYNTAX = 1;
    private static final int ROOM = 2;
    private static final int TWICE = 3;
    private static final int NAME = 4;
    private static final int KIND = 5;
    private static final int FULL = 6;
    private static final int NONE_LEFT = 7;
    private static final Check CHECK = new Check();

    public static void main(String[] args) {
        tokens();
        syntax();
        room();
        roomOfTokens();
        roomIsLess();
        twice();
        names();
        kinds();
        kindsOfSigns();
        order();
        full();
        noneLeft();
        conds();
        CHECK.finish("FaultTest");
    }

    private static void fault(int number, String marked) {
        DimShelf x = new DimShelf();
        String text = marked.replace("^", "");
        CHECK.due("read of " + brief(marked), Check.read(x, text), number);
        CHECK.due("place in " + brief(marked), x.place(), marked.indexOf('^'));
    }

    private static String brief(String text) {
        int length = text.length();
        return length <= 200 ? text : text.substring(0, 60) + " .. " + text.substring(length - 120);
    }

    private static void good(String text) {
        fault(0, text);
    }

    private static String times(int n, String text) {
        return text.repeat(n);
    }

    private static void tokens() {
        good("");
        good(" \t\r\n");
        good("unknown abcdefg8:0001..0009;");
        fault(SYNTAX, "unknown ^abcdefg89:1;");
        fault(SYNTAX, "unknown u:^00001;");
        fault(SYNTAX, "^unknownx u:1;");
        fault(SYNTAX, " ^Unknown u:1;");
        fault(SYNTAX, "unknown ^U:1;");
        fault(SYNTAX, "unknown u^_:1;");
        fault(SYNTAX, "unknown u:1^.;");
        fault(SYNTAX, "unknown u:1..^.2;");
        fault(SYNTAX, "unknown u:1^. .2;");
        fault(SYNTAX, "unknown u:1;^\u000b");
        fault(SYNTAX, "unknown u:1;^\u0000");
        fault(SYNTAX, "unknown u:1;^\u00ff");
        fault(SYNTAX, "unknown u^\u00e9:1;");
        fault(SYNTAX, "always 1^>0;");
        fault(SYNTAX, "always 1^! =2;");
        fault(SYNTAX, "always 1< ^=2;");
        fault(SYNTAX, "always 1=^=2;");
        good("unknown u : 1 .. 2 ; always?u<-1|1!=2;");
        good("unknown u:1..2;table t(a);row t(1);");
        good("unknown\tu:1;");
        fault(SYNTAX, "^unknownu:1;");
        fault(SYNTAX, "unknown u:12^a;");
        good("table a1b2(c3,d4);row a1b2(1,2);");
        for (String word : new String[] {"unknown", "table", "row", "if", "always", "answer", "count", "least", "most",
            "sum"}) {
            fault(SYNTAX, "table ^" + word + "(a);");
            fault(SYNTAX, "table t(^" + word + ");");
            good("table " + word + "s(a" + word.charAt(0) + ");");
        }
    }

    private static void syntax() {
        fault(SYNTAX, "^;");
        fault(SYNTAX, "unknown^");
        fault(SYNTAX, "unknown u^;");
        fault(SYNTAX, "unknown u:^;");
        fault(SYNTAX, "unknown u:-^-1;");
        fault(SYNTAX, "unknown u:^?u;");
        fault(SYNTAX, "unknown u:1..2^,3;");
        fault(SYNTAX, "unknown u:1,2^..3;");
        fault(SYNTAX, "unknown u:1,^;");
        fault(SYNTAX, "unknown u:1^");
        fault(SYNTAX, "table t^;");
        fault(SYNTAX, "table t(^);");
        fault(SYNTAX, "table t(a,^);");
        fault(SYNTAX, "table t(a ^b);");
        fault(SYNTAX, "row t(^a);");
        fault(SYNTAX, "row t(1,?^1);");
        fault(SYNTAX, "row t(1) ^1=1;");
        fault(SYNTAX, "row t(1) if^;");
        fault(SYNTAX, "row t(1) if 1=1 ^if 1=1;");
        fault(SYNTAX, "always^;");
        fault(SYNTAX, "always 1=1^)");
        fault(SYNTAX, "always (1=1^;");
        fault(SYNTAX, "always 1^&1=1;");
        fault(SYNTAX, "always 1=1&^|1=1;");
        fault(SYNTAX, "always (1^)=1;");
        fault(SYNTAX, "always ^a=1;");
        fault(SYNTAX, "always 1=^!1;");
        fault(SYNTAX, "answer x^;");
        fault(SYNTAX, "answer x=^;");
        fault(SYNTAX, "answer x=^?u;");
        fault(SYNTAX, "answer x=(t^;");
        fault(SYNTAX, "answer x=t^)");
        fault(SYNTAX, "answer x=t+^+t;");
        fault(SYNTAX, "answer x=t*^-t;");
        fault(SYNTAX, "answer x=t[^];");
        fault(SYNTAX, "answer x=t[a^];");
        fault(SYNTAX, "answer x=t[a=1,^];");
        fault(SYNTAX, "answer x=t[a=1^&a=1];");
        fault(SYNTAX, "answer x=t[^(a=1)];");
        fault(SYNTAX, "answer x=t[^!a=1];");
        fault(SYNTAX, "answer x=t:^a;");
        fault(SYNTAX, "answer x=t:(^);");
        fault(SYNTAX, "answer x=t{a^};");
        fault(SYNTAX, "answer x=t{a=b^,c=d};");
        fault(SYNTAX, "answer x=t#^a;");
        fault(SYNTAX, "answer x=t#(^,)count n;");
        fault(SYNTAX, "answer x=t#()^n;");
        fault(SYNTAX, "answer x=t#()count^;");
        fault(SYNTAX, "answer x=t#()sum b^;");
        fault(SYNTAX, "answer x=t#()least ^1 n;");
        fault(SYNTAX, "answer x=t ^t;");
        good("table t(a);answer x=((t)[a=1,1=a,a=a,1=1]:(a){b=a})#()most b n#(n)sum n s+t{n=a}#(n)least n s;");
    }

    private static void room() {
        StringBuilder unknowns = new StringBuilder();
        StringBuilder tables = new StringBuilder();
        for (int i = 0; i < 8; i++) {
            unknowns.append("unknown u").append(i).append(":1;");
        }
        for (int i = 0; i < 10; i++) {
            tables.append(i % 2 == 0 ? "table t" + i + "(a);" : "answer t" + i + "=t0;");
        }
        good(unknowns.toString());
        fault(ROOM, unknowns + "unknown ^u8:1;");
        fault(ROOM, unknowns + "unknown ^u0:1;");
        good(tables.toString());
        fault(ROOM, tables + "table ^s(a);");
        fault(ROOM, tables + "answer ^s=t0;");
        good("table t(a,b,c,d);");
        fault(ROOM, "table t(a,b,c,d,^e);");
        fault(ROOM, "table t(a,a,a,a,^a);");
        good("table t(a);table s(a);" + times(30, "row t(1);") + times(30, "row s(1);"));
        fault(ROOM, "table t(a);" + times(30, "row t(1);") + "row ^t(1);");
        fault(ROOM, "table t(a);answer x=t;" + times(30, "row x(1);") + "row ^x(1);");
        fault(NAME, "row ^t(1);" + times(30, "row t(1);"));
        good(times(12, "always 1=1;"));
        fault(ROOM, times(12, "always 1=1;") + "^always 1=1;");
        good("unknown u:0,1,2,3,4,5,6,7,8,9,10,11,12,13,14,15;");
        fault(ROOM, "unknown u:0,1,2,3,4,5,6,7,8,9,10,11,12,13,14,15,^16;");
        fault(ROOM, "unknown u:0,1,2,3,4,5,6,7,8,9,10,11,12,13,14,15,^-16;");
        fault(ROOM, "unknown u:0,1,2,3,4,5,6,7,8,9,10,11,12,13,14,15,^-;");
        fault(SYNTAX, "unknown u:0,1,2,3,4,5,6,7,8,9,10,11,12,13,14,15,^;");
        good("table t(a);answer x=t" + times(20, "-t") + ";answer y=t" + times(10, "#(a)count n:(a)*t") + ";");
        fault(ROOM, "table t(a);answer x=t" + times(40, "-t") + "^-t;");
        fault(ROOM, "table t(a);answer x=t" + times(40, "-t") + ";answer y=t^#()count n;");
        fault(ROOM, "table t(a);answer x=t" + times(20, "-t") + ";answer y=t" + times(20, "+t") + "^*t;");
        good("table t(a);answer x=t" + times(40, "-t") + "[a=-1];");
        good("always " + times(8, "(") + "1=1" + times(8, ")") + "&!!!!!!!!1=1;");
        fault(ROOM, "always " + times(8, "(") + "^(1=1);");
        fault(ROOM, "always " + times(8, "!") + "^!1=1;");
        fault(ROOM, "always " + times(4, "!(") + "^!1=1;");
        good("always " + times(4, "!(") + "1=1" + times(4, ")") + "|!!!!!!!!2=1|((((((((1=1))))))));");
        fault(ROOM, "table t(a);row t(1) if ((((((((1=1&^!1=2;");
        good("table t(a);answer x=" + times(8, "(") + "t" + times(8, ")") + ":(a)#(a)count b-((((((((t*t{b=a}))))))));");
        fault(ROOM, "table t(a);answer x=" + times(8, "(") + "^(t;");
        good("table t(a);answer x=" + times(8, "(") + "t:(a)#(a)count b" + times(8, ")") + ";");
    }

    private static void roomOfTokens() {
        String most = "always " + times(249, "1=1&") + "1=1";
        good("always " + times(248, "1=1&") + "!!!1=2;");
        fault(ROOM, "always " + times(248, "1=1&") + "!!!!1=1^;");
        fault(ROOM, most + "^;");
        fault(ROOM, most + "^&1=1;");
        fault(ROOM, most + "^&)");
        fault(SYNTAX, most + "^)");
        fault(SYNTAX, most + "^?");
        fault(SYNTAX, most + "^$");
        fault(SYNTAX, most + "  ^");
        fault(SYNTAX, "always " + times(249, "1=1&") + "1=^&1=1;");
        good("always " + times(248, "1=1&") + "!!!1=2; \n ");
        fault(ROOM, "always " + times(248, "1=1&") + "!!!1=2; ^always 1=1;");
        fault(SYNTAX, "always " + times(248, "1=1&") + "!!!1=2;^;");
        fault(ROOM, "always " + times(248, "1=1&") + "!!!1=2;^unknown");
    }

    private static void roomIsLess() {
        fault(ROOM, "table t(a,b,c,d,^e,1);");
        fault(SYNTAX, "table t(a,b,^1,c,d,e);");
        fault(ROOM, "table t(a);table t(a,b,c,d,^e);");
        fault(SYNTAX, "unknown u:2..1;unknown u:1;always ?w=1;^x");
        fault(TWICE, "unknown u:1;unknown ^u:1;always 1=2;");
        fault(NAME, "always ?^w=1;always 1=2;");
    }

    private static void twice() {
        fault(TWICE, "unknown u:1;unknown ^u:1;");
        fault(TWICE, "table t(a);table ^t(b);");
        fault(TWICE, "table t(a);answer ^t=t;");
        fault(TWICE, "table t(a);answer x=t;table ^x(a);");
        good("unknown t:1;table t(t);row t(?t);answer x=t;");
        fault(TWICE, "table t(a,b,^a);");
        fault(TWICE, "table t(a,b);answer x=t:(b,a,^b);");
        fault(TWICE, "table t(a,b);answer x=t#(b,^b)count n;");
        fault(TWICE, "table t(a,b);answer x=t#(b)count ^b;");
        good("table t(a,b);answer x=t#(b)count a;");
        good("table t(a,b);answer x=t#(b)sum a a;");
        fault(TWICE, "table t(a,b);answer x=t{^a=b};");
        fault(TWICE, "table t(a,b);answer x=t{^a=a};");
        fault(TWICE, "table t(a,b);answer x=t{^a=c};");
        good("table t(a,b);answer x=t{c=a}{a=b}{b=c}:(b,a);");
    }

    private static void names() {
        fault(NAME, "row ^t(1);table t(a);");
        fault(NAME, "table t(a);row t(?^u);unknown u:1;");
        fault(NAME, "table t(a);row t(1) if 1=1|?^u=1;");
        fault(NAME, "unknown u:1;always ?u=?^t;table t(a);");
        fault(NAME, "answer x=^x;");
        fault(NAME, "answer x=^t;table t(a);");
        fault(NAME, "table t(a);answer x=t[^b=1];");
        fault(NAME, "table t(a);answer x=t[a=^b];");
        fault(NAME, "table t(a);answer x=t[a=?^a];");
        fault(NAME, "table t(a);answer x=t:(a,^b);");
        fault(NAME, "table t(a);answer x=t{b=^c};");
        fault(NAME, "table t(a);answer x=t{b=^b};");
        fault(NAME, "table t(a);answer x=t{b=a}[^a=1];");
        good("table t(a);answer x=t{b=a}[b=1];");
        fault(NAME, "table t(a,b);answer x=t:(a)[^b=1];");
        fault(NAME, "table t(a);answer x=t#(^b)count n;");
        fault(NAME, "table t(a);answer x=t#()least ^b n;");
        fault(NAME, "table t(a);answer x=t#()least ^n n;");
        fault(NAME, "table t(a);answer x=t#()count n[^a=1];");
        good("table t(a);answer x=t#()count n[n=1];");
        fault(NAME, "table t(a,b);answer x=t:(^c)[d=1]{a=a};");
    }

    private static void kinds() {
        fault(KIND, "table t(a,b);row ^t(1);");
        fault(KIND, "table t(a,b);row ^t(1,2,3);");
        fault(KIND, "table t(a);row ^t(1,2,3,4,5,6,7,8);");
        fault(KIND, "table t(a);row ^t(?u,?v);");
        fault(KIND, "table t(a);answer x=t;row ^x(1);");
        fault(KIND, "table t(a);answer x=t;row ^x(1,2);");
        fault(KIND, "unknown u:1..^0;");
        fault(KIND, "unknown u:-1..^-2;");
        fault(KIND, "unknown u:0..^64;");
        fault(KIND, "unknown u:-9..^55;");
        fault(KIND, "unknown u:-9999..^9999;");
        good("unknown u:-9..54;");
        good("unknown u:9..9;");
        fault(KIND, "unknown u:1,2,^1;");
        fault(KIND, "unknown u:1,2,^01,2;");
        fault(KIND, "unknown u:0,^-0;");
        fault(KIND, "unknown u:-1,1,^- 1;");
        good("unknown u:0..31;unknown v:0..31;unknown w:9;");
        fault(KIND, "unknown u:0..31;unknown v:0..32^;");
        fault(KIND, "unknown u:0..31;unknown v:0..31;unknown w:1,2^;");
        fault(KIND, "unknown u:0..63;unknown v:0..63^;unknown w:1,1;");
        good("unknown a:0..1;unknown b:0..1;unknown c:0..3;unknown d:0..3;unknown e:0..3;unknown f:0..3;");
    }

    private static void kindsOfSigns() {
        String four = "table t(a,b,c,d);table s(d,e,f);table r(e,f,g);table q(g);table p(h);";
        fault(KIND, four + "answer x=t^+s;");
        fault(KIND, four + "answer x=t^-t:(b,a,c,d);");
        fault(KIND, four + "answer x=t+t:(a,b,c,d)^-q;");
        fault(KIND, four + "answer x=q+q^-p-q;");
        good(four + "answer x=q+p{g=h}-q;");
        good(four + "answer x=t*s;");
        fault(KIND, four + "answer x=t*s^*q;");
        good(four + "answer x=t*s*t*s;");
        fault(KIND, four + "answer x=t^*r;");
        fault(KIND, four + "answer x=(t*s)^#(a,b,c,d,e,f)count n;");
        good(four + "answer x=(t*s)#(a,b,c,d,e)count n;");
        good(four + "answer x=(t*s)#(a,b,c,d,e)sum f n#(n,e,d,c,b)most a f;");
        fault(KIND, four + "answer x=(t*s)^#(a,b,c,d,e,f)sum z z;");
        fault(KIND, four + "answer x=(t*s)^#(a,b,c,d,e,f)count a;");
        fault(KIND, four + "answer x=(t*s)^#(a,b,z,c,d,e,f)count n;");
        fault(KIND, four + "answer x=(t*s)^#(a,a,b,c,d,e,f)count n;");
        fault(NAME, four + "answer x=(t*s)#(a,b,c,d,e,^z)count n;");
        fault(TWICE, four + "answer x=(t*s)#(a,b,c,d,e,^e)count n;");
        fault(KIND, four + "answer x=(t^+s)*zz;");
    }

    private static void order() {
        fault(NAME, "table t(a);answer x=t+t:(^b);");
        fault(NAME, "table t(a);answer x=t:(^b)+t;");
        fault(NAME, "table t(a);answer x=^zz+t{b=a};");
        fault(KIND, "table t(a);answer x=t^+t{b=a}+zz;");
        fault(NAME, "table t(a);answer x=t+(t{b=a}+^zz);");
        fault(KIND, "table t(a);answer x=t+(t{b=a}^-t);");
        fault(NAME, "table t(a,b,c,d);answer x=t*(t{e=a}{f=b}{g=c})[^h=1];");
        fault(KIND, "table t(a,b,c,d);answer x=t^*(t{e=a}{f=b}{g=c});");
        fault(KIND, "table t(a);row ^t(1,?u);");
        fault(TWICE, "table t(a);answer ^t=zz;");
        fault(TWICE, "unknown u:1;unknown ^u:2..1;");
        fault(KIND, "unknown u:2..^1;unknown u:1;");
        fault(NAME, "always ?^a=?b;unknown u:1,1;");
    }

    private static void full() {
        String five = "table t(a);" + times(5, "row t(1);");
        String six = five + "row t(2);";
        good(six + five.replace("t(", "s(") + "answer x=t*s;");
        fault(FULL, six + six.replace("t(", "s(") + "answer x=t^*s;");
        fault(FULL, six + "table s(b);row s(1);answer x=t*s^*t;");
        good(six + "answer x=t+t+t+t+t;");
        fault(FULL, six + "answer x=t+t+t+t+t^+t;");
        fault(FULL, six + "answer x=t+t+t+t+t;answer y=x^+t;always 1=2;");
        fault(FULL, six + "answer x=t+t^*t;");
        good(six + "answer x=t+t+t+t+t-t-t-t;");
        fault(FULL, six + "answer x=(t+t+t+t+t)+t^*t;");
        fault(FULL, six + "answer x=t+t+t+t+t^+(t+t);");
        good("unknown u:1..30;table t(a);row t(?u);answer x=t#(a)count n;");
        fault(FULL, "unknown u:1..31;table t(a);row t(?u);answer x=t^#(a)count n;");
        good("unknown u:1..31;table t(a);row t(?u);answer x=t#()count n;");
        fault(FULL, "unknown u:1..31;table t(a);row t(?u);answer x=t^#()sum a n;");
        fault(FULL, "unknown u:1..31;table t(a);row t(?u);always ?u=1;answer x=t^#()sum a n;");
        fault(FULL, "unknown u:1..31;table t(a);row t(?u);answer x=t^#()least a n;always 1=2;");
        good("unknown u:1..31;table t(a);row t(?u);answer x=t[a<31]#()most a n;");
        fault(FULL, six + "answer x=t^*t;answer y=t*t;");
        fault(FULL, six + "row t(3) if 1=2;answer x=t+t+t+t^+t;");
    }

    private static void noneLeft() {
        fault(NONE_LEFT, "^always 1=2;");
        fault(NONE_LEFT, "unknown u:1..3;always ?u<3; ^always ?u=3;");
        fault(NONE_LEFT, "unknown u:1..3;always ?u<3; ^always ?u=3;always 1=2;");
        good("unknown u:1..3;always ?u<3;always ?u=2;");
        fault(NONE_LEFT, "^always 1=2;table t(a);" + times(6, "row t(1);") + "answer x=t*t;");
        fault(NONE_LEFT, "^always 1=2;unknown u:1..3;");
    }

    private static void cond(int number, String marked) {
        DimShelf x = new DimShelf();
        Check.read(x, "unknown u:1..2;table t(a);");
        String text = marked.replace("^", "");
        CHECK.due("ask of " + brief(marked), Check.ask(x, text), number);
        CHECK.due("place of asked " + brief(marked), x.place(), marked.indexOf('^'));
        CHECK.due("learn of " + brief(marked), Check.learn(x, text), number == 0 ? -2 : number);
        CHECK.due("place of learned " + brief(marked), x.place(), marked.indexOf('^'));
    }

    private static void conds() {
        cond(1, " ?u = 1 ");
        cond(0, "?u=1&?u=2");
        cond(-1, "^");
        cond(-1, "  ^");
        cond(-1, "?u=1^;");
        cond(-1, "?u=1 ^if");
        cond(-1, "^always ?u=1");
        cond(-1, "?^t=1");
        cond(-1, "^t=1");
        cond(-1, "?^w=1");
        cond(-1, "?w=1^)");
        cond(-1, "?u=1^\u0000");
        cond(-1, "((((((((^(1=1)))))))))");
        cond(2, "((((((((1=1))))))))");
        cond(2, times(249, "1=1&") + "!1=2");
        cond(2, times(249, "1=1&") + "?u<3");
        cond(-1, times(249, "1=1&") + "!?u<^3");
        cond(-1, times(249, "1=1&") + "?u=3^&1=1");
        cond(-1, times(249, "1=1&") + "?u=3^)");
        cond(-1, times(249, "1=1&") + "?^w=3");
    }
}
