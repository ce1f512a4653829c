/** What a text may be and what not, sentence by sentence: the last that may be and the first that may not. */
public final class TextEdgeTest {
    private static final int SYNTAX = 1;
    private static final int ROOM = 2;
    private static final int TWICE = 3;
    private static final int NAME = 4;
    private static final int KIND = 5;
    private static final int FULL = 6;
    private static final int NONE_LEFT = 7;
    private static final Check CHECK = new Check();

    public static void main(String[] args) {
        lengths();
        bytes();
        tokens();
        words();
        ends();
        roomOfTells();
        roomOfRows();
        roomOfSigns();
        roomOfLists();
        roomOfConds();
        roomOfQueries();
        roomOfTokens();
        twiceTold();
        twiceMade();
        names();
        kindsOfRows();
        kindsOfInts();
        kindsOfWorlds();
        kindsOfSigns();
        hanging();
        fullOfSigns();
        fullOfGroups();
        noneLeft();
        orders();
        samePlaces();
        condOrders();
        CHECK.finish("TextEdgeTest");
    }

    /** A ^ stands ahead of the place of the FAULT; 0 is none. */
    private static void text(int fault, String marked) {
        DimShelf x = new DimShelf();
        CHECK.due("read of " + brief(marked), Check.read(x, marked.replace("^", "")), fault);
        CHECK.due("place in " + brief(marked), x.place(), marked.indexOf('^'));
    }

    private static String brief(String text) {
        int length = text.length();
        return length <= 200 ? text : text.substring(0, 60) + " .. " + text.substring(length - 120);
    }

    private static void good(String text) {
        text(0, text);
    }

    private static String times(int n, String text) {
        return text.repeat(n);
    }

    /** Once for each number from the first to the one ahead of the end, with the number in place of each %. */
    private static String counted(int first, int end, String text) {
        StringBuilder all = new StringBuilder();
        for (int i = first; i < end; i++) {
            all.append(text.replace("%", Integer.toString(i)));
        }
        return all.toString();
    }

    /** "THE TEXT of a shelf, at most 4,000 bytes"; "the text's end: its length". */
    private static void lengths() {
        good("");
        text(SYNTAX, "^;");
        String tell = "unknown u:1..3;";
        good(times(4000 - tell.length(), " ") + tell);
        good(tell + times(4000 - tell.length(), " "));
        good(times(3999 - tell.length(), "\n") + tell);
        good(times(4000, "\n"));
        text(SYNTAX, times(3999, " ") + "^x");
        text(SYNTAX, times(3999, " ") + "^\u0000");
        text(SYNTAX, times(3993, "\t") + "unknown^");
        text(SYNTAX, times(3992, "\r") + "unknown ^");
        text(SYNTAX, "unknown" + times(3993, " ") + "^");
        text(SYNTAX, "unknown u:1..3" + times(3986, " ") + "^");
        text(SYNTAX, times(3991, " ") + "always 1=^");
        text(SYNTAX, times(3991, " ") + "always 1^.");
        text(SYNTAX, times(3991, " ") + "^unknownuv");
        text(SYNTAX, times(3983, " ") + "unknown abcdefgh^");
        text(SYNTAX, times(3982, " ") + "unknown ^abcdefghi");
        text(KIND, times(3986, " ") + "unknown u:1,^1;");
        text(KIND, "unknown u:0..63;" + times(3967, " ") + "unknown v:0..16^;");
    }

    /** Each byte: as the first of a TOKEN, within a NAME, behind a NUMBER, ahead of all. */
    private static void bytes() {
        for (int b = 0; b < 256; b++) {
            String sign = String.valueOf((char) b);
            boolean blank = b == 9 || b == 10 || b == 13 || b == 32;
            boolean letter = b >= 'a' && b <= 'z';
            boolean digit = b >= '0' && b <= '9';
            byteOf("unknown u:1;", sign, "", blank ? 0 : SYNTAX, 12);
            byteOf("", sign, "always 1=1;", blank ? 0 : SYNTAX, 0);
            boolean bracket = b == ',' || b == ')';
            byteOf("table t(a", sign, ");", blank || letter || digit ? 0 : SYNTAX, bracket ? 10 : 9);
            int compared = digit || b == '!' ? NONE_LEFT : blank || b == '<' ? 0 : SYNTAX;
            byteOf("always 1", sign, "=1;", compared, compared == NONE_LEFT ? 0 : b == '=' ? 9 : 8);
            byteOf("unknown ", sign, ":1;", letter ? 0 : SYNTAX, blank ? 9 : 8);
            byteOf("unknown u:", sign, ";", digit ? 0 : SYNTAX, blank || b == '-' ? 11 : 10);
        }
    }

    private static void byteOf(String ahead, String sign, String behind, int fault, int place) {
        DimShelf x = new DimShelf();
        String what = " of byte " + (int) sign.charAt(0) + " between '" + ahead + "' and '" + behind + "'";
        CHECK.due("read" + what, Check.read(x, ahead + sign + behind), fault);
        CHECK.due("place" + what, x.place(), fault == 0 ? -1 : place);
    }

    /** "TOKENS, the longest that can be"; "at most 8"; "1 to 4 digits"; "A longer NAME or NUMBER, all else". */
    private static void tokens() {
        good("unknown a:0;unknown z:9;unknown a0:1;unknown abcdefgh:1;unknown z2345678:1;");
        text(SYNTAX, "unknown ^abcdefghi:1;");
        text(SYNTAX, "unknown ^a23456789:1;");
        text(SYNTAX, "unknown ^" + times(200, "a") + ":1;");
        text(SYNTAX, "table t(^a23456789);");
        good("unknown u:0,1,12,123,1234,9999,-9999,0124,-0009;");
        text(SYNTAX, "unknown u:^12345;");
        text(SYNTAX, "unknown u:^00000;");
        text(SYNTAX, "unknown u:-^12345;");
        text(SYNTAX, "unknown u:^" + times(300, "9") + ";");
        text(SYNTAX, "unknown u:1..^00002;");
        text(SYNTAX, "always 1=^10000;");
        text(SYNTAX, "unknown u:1234^a;");
        text(SYNTAX, "unknown u:1234 ^5;");
        text(SYNTAX, "unknown ^1u:1;");
        good("unknown u:1..2;");
        good("unknown u:1 .. 2;");
        text(SYNTAX, "unknown u:1^. .2;");
        text(SYNTAX, "unknown u:1..^.2;");
        text(SYNTAX, "unknown u:1..^..2;");
        good("always 1<=1;");
        text(SYNTAX, "always 1< ^=1;");
        good("always 1!=2;");
        text(SYNTAX, "always 1^! =2;");
        good("always!!1=1&!1!=1;");
        text(SYNTAX, "always ^!=1;");
        good("unknown\tu\n:\r- 1\t..\n\r 2 ;");
        good("unknown u:-1..2;always?u<-1|-1<=?u;");
    }

    /** "the words in quotes below are none": no NAMES, but with a letter more or less they are. */
    private static void words() {
        for (String word : "unknown table row if always answer count least most sum".split(" ")) {
            String less = word.substring(0, word.length() - 1);
            text(SYNTAX, "unknown ^" + word + ":1;");
            text(SYNTAX, "table ^" + word + "(a);");
            text(SYNTAX, "table t(^" + word + ");");
            text(SYNTAX, "answer ^" + word + "=t;");
            text(SYNTAX, "always ?^" + word + "=1;");
            text(SYNTAX, "table t(a);answer x=^" + word + ";");
            text(SYNTAX, "table t(a);answer x=t:(^" + word + ");");
            text(SYNTAX, "table t(a);answer x=t[^" + word + "=1];");
            text(SYNTAX, "table t(a);answer x=t{^" + word + "=a};");
            text(SYNTAX, "table t(a);answer x=t#()count ^" + word + ";");
            good("unknown " + word + "0:1;table " + less + "(" + word + "s);row " + less + "(?" + word + "0);");
        }
        good("table count1(sum1,if1);answer rows=count1#(if1)sum sum1 most1;");
        text(SYNTAX, "^Unknown u:1;");
        text(SYNTAX, "^unknowns u:1;");
        text(SYNTAX, "^unknow u:1;");
        text(SYNTAX, "^count u:1;");
    }

    private static final String ALL = "unknown u : - 2 .. - 1 ; unknown v : - 1 , 0 , 3 ; unknown w : 1 .. 2 ; "
        + "table t ( a , b , c ) ; row t ( 1 , ? u , - 3 ) if ! ( ? u = 1 | 2 != 3 & ! ! 1 < ? v ) & 1 <= 2 ; "
        + "always ( 1 = 1 ) ; row t ( 1 , 2 , 3 ) ; answer x = ( ( t [ a = 1 , 1 <= ? u , - 1 != b ] ) : ( a , b ) "
        + "{ n = b } + t : ( a ) * t # ( ) count n - t # ( a ) least c n + t # ( a ) most b n + ( t ) # ( a , c ) sum b n "
        + ": ( a , n ) ) * t ; ";

    /** "SYNTAX: a TOKEN, or what is none, with which no text goes on": at each TOKEN, and at the end. */
    private static void ends() {
        String[] tokens = ALL.trim().split(" ");
        StringBuilder ahead = new StringBuilder();
        for (int i = 0; i <= tokens.length; i++) {
            boolean whole = i == 0 || tokens[i - 1].equals(";");
            text(whole ? 0 : SYNTAX, ahead + (whole ? "" : "^"));
            text(SYNTAX, ahead + "^$");
            text(SYNTAX, ahead + "^. .");
            text(SYNTAX, ahead + "^abcdefghi");
            text(SYNTAX, ahead + "^12345");
            boolean first = i > 3 && (tokens[i - 2] + tokens[i - 1]).matches(":[0-9]")
                || i > 3 && (tokens[i - 3] + tokens[i - 2] + tokens[i - 1]).matches(":-[0-9]");
            boolean brace = i > 3 && tokens[i - 4].equals("{");
            text(SYNTAX, ahead + (first ? "..^" : "^.."));
            text(SYNTAX, ahead + (brace ? "}^" : "^}"));
            if (i < tokens.length) {
                ahead.append(tokens[i]).append(' ');
            }
        }
        text(KIND, ALL.replace(".. - 1", ".. ^- 3"));
    }

    /** "a 9th UNKNOWN, 11th TABLE, 5th COLUMN of a TABLE told (each at its NAME)". */
    private static void roomOfTells() {
        String eight = counted(0, 8, "unknown u%:1;");
        good(eight);
        text(ROOM, eight + "unknown ^u8:1;");
        text(ROOM, eight + "unknown ^u7:2,2;");
        text(SYNTAX, eight + "unknown^;");
        text(ROOM, counted(0, 4, "unknown u%:1;table t%(a);row t%(1);") + counted(4, 8, "unknown u%:1;") + "unknown ^z");
        good(counted(0, 10, "table t%(a);"));
        text(ROOM, counted(0, 10, "table t%(a);") + "table ^z(a);");
        text(ROOM, counted(0, 10, "table t%(a);") + "answer ^z=t0;");
        good("table t(a);" + counted(0, 9, "answer x%=t;"));
        text(ROOM, "table t(a);" + counted(0, 9, "answer x%=t;") + "answer ^z=t;");
        text(ROOM, "table t(a);" + counted(0, 9, "answer x%=t;") + "table ^z(a);");
        text(SYNTAX, "table t(a);" + counted(0, 9, "answer x%=t;") + "table^(a);");
        good("table t(a);table s(a,b,c,d);table r(a,b,c,d);");
        text(ROOM, "table s(a,b,c,d);table t(a,b,c,d,^e);");
        text(ROOM, "table t(a,b,c,d,^e,f,g);");
        text(SYNTAX, "table t(a,b,c,d,^);");
        text(SYNTAX, "table t(a,b,c,d,^5);");
        good("table t(a,b,c,d);answer x=t*t{e=a}:(b,e);answer y=t*t:(a,b){e=a}{f=b};");
        good(times(12, "always 1=1;"));
        text(ROOM, times(12, "always 1=1;") + "^always 1=1;");
        text(ROOM, times(6, "always 1=1;always 1=2;") + " ^always;");
    }

    /** "a 31st row of a TABLE (at that NAME)". */
    private static void roomOfRows() {
        String two = "table t(a);table s(a);" + times(30, "row t(1);row s(2);");
        good(two);
        text(ROOM, two + "row ^t(1);");
        text(ROOM, two + "row ^s(1);");
        text(ROOM, two + "row ^t;");
        text(SYNTAX, two + "row^(1);");
        good(two + "table r(a);row r(1);answer x=t-r;");
        text(ROOM, "table t(a);" + times(30, "row t(1) if 1=2;") + "row ^t(2);");
        text(NAME, "table t(a);" + times(30, "row t(1);") + "row ^s(2);");
    }

    /** "a 41st of + - * # in all Qs of a text (at it)". */
    private static void roomOfSigns() {
        String[] steps = {"+t", "-t", "*t", "#(a)count n:(a)"};
        for (String last : steps) {
            StringBuilder q = new StringBuilder("table t(a);answer x=t");
            for (int i = 0; i < 39; i++) {
                q.append(steps[i % 4]);
            }
            good(q + last + ";");
            text(ROOM, q + "+t^" + last + ";");
            text(ROOM, q + ";answer y=t*t^" + last + ";");
            text(ROOM, q + ";answer y=t+(t^" + last + ");");
            text(ROOM, q + "-t^" + last.charAt(0));
        }
        String forty = "table t(a);answer x=t" + times(40, "-t");
        good(forty + ";row t(-1);always -1=-1;answer y=t[-1=-2,a=-1,-3<a];answer z=(t:(a));unknown u:-1..-1;");
        text(SYNTAX, forty + "^(-t);");
        text(SYNTAX, forty + "[-^];");
        text(ROOM, forty + "^--t;");
    }

    /** "a 17th INT of a list (at its first TOKEN)"; a list of 16 is one of 16 values. */
    private static void roomOfLists() {
        good("unknown u:0" + counted(1, 16, ",%") + ";unknown v:-0" + counted(1, 16, ",-%") + ";");
        text(ROOM, "unknown u:0" + counted(1, 16, ",%") + ",^16;");
        text(ROOM, "unknown u:0" + counted(1, 16, ",%") + ",^0;");
        text(ROOM, "unknown u:0" + counted(1, 16, ",-%") + ",^-16;");
        text(ROOM, "unknown u:0" + counted(1, 16, ",-%") + ", ^- 16,17;");
        text(SYNTAX, "unknown u:0" + counted(1, 16, ",%") + ",^;");
        text(SYNTAX, "unknown u:0" + counted(1, 16, ",%") + ",^?u;");
        text(SYNTAX, "unknown u:0" + counted(1, 16, ",%") + "^..16;");
        good("unknown u:0" + counted(1, 16, ",%") + ";unknown v:1" + counted(2, 17, ",%") + ";");
        good("unknown u:0..63;");
    }

    /** "a 9th that is open of ( and ! in a COND (a ! till its LIT is through)". */
    private static void roomOfConds() {
        for (int signs = 0; signs < 256; signs++) {
            StringBuilder open = new StringBuilder();
            StringBuilder shut = new StringBuilder();
            for (int i = 0; i < 8; i++) {
                boolean bracket = (signs >> i & 1) == 0;
                open.append(bracket ? '(' : '!');
                shut.append(bracket ? ")" : "");
            }
            String even = Integer.bitCount(signs) % 2 == 0 ? "1=1" : "1=2";
            good("always " + open + even + shut + ";");
            text(ROOM, "always " + open + "^(1=1;");
            text(ROOM, "always " + open + "^!1=1;");
        }
        good("always !!!!!!!!1=1&!!!!!!!!1=1|((((((((1=1))))))))&!(!(!(!(1=1))));");
        good("always (1=1)&(1=1)&(1=1)&(1=1)&(1=1)&(1=1)&(1=1)&(1=1)&(1=1)&!1=2&!1=2&!1=2;");
        good("always (((((((!1=2&!1=2|(1=1)&!1=2)))))));");
        text(ROOM, "always (((((((!1=2&!^!1=2)))))));");
        text(ROOM, "always (((((((!^((1=1)))))))));");
        text(ROOM, "table t(a);row t(1) if ((((((((^(1=1)))))))));");
        good("table t(a);row t(1) if ((((((((1=1))))))));row t(2) if !!!!!!!!1=2;");
        good("always ((((((((1=1))))))));always ((((((((1=1))))))));table t(a);answer x=((((((((t))))))));");
    }

    /** "or of ( ) with a Q in a Q (at it)": the ( ) of steps are none. */
    private static void roomOfQueries() {
        String eight = times(8, "(");
        good("table t(a);answer x=" + eight + "t" + times(8, ")") + ";");
        text(ROOM, "table t(a);answer x=" + eight + "^(t)" + times(8, ")") + ";");
        text(ROOM, "table t(a);answer x=" + eight + "^(zz");
        good("table t(a);answer x=" + eight + "t:(a)#(a)count b#()sum a n" + times(8, ")") + ":(n)#(n)count m;");
        good("table t(a);answer x=" + times(9, "(t)+") + "(t);");
        good("table t(a);answer x=" + eight + "t" + times(8, ")") + "-" + eight + "t" + times(8, ")") + ";");
        text(ROOM, "table t(a);answer x=t*(t+(t-(t*(t+(t-(t*(t+(t-^(t))))))))));");
        good("table t(a);answer x=t*(t+(t-(t*(t+(t-(t*(t+(t-t))))))));answer y=(t);");
        text(ROOM, "table t(a);answer x=((t)+(t)+" + times(7, "(") + "^(t" + times(9, ")") + ";");
    }

    /** "a 1,001st TOKEN": 1,000 may be; at one place SYNTAX is less. */
    private static void roomOfTokens() {
        String thousand = "always " + times(248, "1=1&") + "!!!1=2;";
        good(thousand);
        good(thousand + times(100, "\n"));
        text(ROOM, thousand + "^always");
        text(ROOM, thousand + "^always $");
        text(ROOM, thousand + " \t ^table t(a);");
        text(SYNTAX, thousand + "^if");
        text(SYNTAX, thousand + "^$");
        text(SYNTAX, thousand + "^abcdefghi");
        text(ROOM, "always " + times(249, "1=1&") + "1=1^;");
        text(SYNTAX, "always " + times(249, "1=1&") + "1=1^");
        text(SYNTAX, "always " + times(249, "1=1&") + "1=1^=");
        text(SYNTAX, "always " + times(249, "1=1&") + "1=^=1");
        text(SYNTAX, "^&" + times(1200, ";"));
    }

    /** "TWICE: a new UNKNOWN, TABLE that there is already (each sort by itself); a COLUMN .. (told ..". */
    private static void twiceTold() {
        text(TWICE, "unknown u:1;unknown ^u:2;");
        text(TWICE, counted(0, 7, "unknown u%:1;") + "unknown ^u0:2;");
        text(TWICE, counted(0, 7, "unknown u%:1;") + "unknown ^u6:2;");
        text(TWICE, "table t(a);table ^t(b);");
        text(TWICE, "table t(a);answer ^t=t;");
        text(TWICE, "table t(a);answer x=t;answer ^x=t;");
        text(TWICE, "table t(a);answer x=t;table ^x(a);");
        good("unknown t:1;table t(t);answer x=t[t=?t];answer u=t;unknown x:1;table v(x);");
        text(TWICE, "table t(a,^a);");
        text(TWICE, "table t(a,b,c,^a);");
        text(TWICE, "table t(a,b,c,^c);");
        good("table t(a,b);table s(a,b);");
        good("unknown u:1;unknown u1:1;unknown uu:1;table t(a,aa,a1);");
    }

    /** ".. taken a second time by : ( ) or # ( ); made by { }, #)". */
    private static void twiceMade() {
        String told = "table t(a,b,c);answer x=t";
        text(TWICE, told + ":(a,^a);");
        text(TWICE, told + ":(c,b,a,^b);");
        text(TWICE, told + "#(a,^a)count n;");
        text(TWICE, told + "#(c,b,^c)sum a n;");
        text(TWICE, told + "#(a,^a,z)count n;");
        text(NAME, told + "#(^z,a,a)count n;");
        text(NAME, told + ":(^z,a,a);");
        good(told + ":(c,b,a);");
        good(told + "#(c,b,a)sum a n;");
        text(TWICE, told + "{^a=a};");
        text(TWICE, told + "{^b=a};");
        text(TWICE, told + "{^b=z};");
        good(told + "{d=a}{a=d}{d=a}{a=b};");
        text(TWICE, told + "{d=a}{^d=b};");
        text(TWICE, told + "#(a,b)count ^a;");
        text(TWICE, told + "#(a,b)sum b ^b;");
        text(TWICE, told + "#(a)count n#(a,n)count ^n;");
        good(told + "#(a)sum b b;");
        good(told + "#()sum a a;");
        good(told + "#()count a:(a)#(a)count b{c=b};");
    }

    /** "NAME: none such, as above": all but new ones are told ahead. */
    private static void names() {
        text(NAME, "row ^t(1);table t(a);");
        text(NAME, "unknown t:1;row ^t(1);");
        text(NAME, "table t(a);row t(?^a);");
        text(NAME, "table t(a);row t(?^u);unknown u:1;");
        text(NAME, "table t(a);row t(1) if ?^t=1;");
        text(NAME, "always 1=?^u;unknown u:1;");
        text(NAME, "unknown u:1;always ?u=?^v;unknown v:1;");
        text(NAME, "unknown u:1;answer x=^u;");
        text(NAME, "table t(u);answer x=^u;");
        text(NAME, "table t(a);answer x=t+^x;");
        text(NAME, "table t(a);answer x=t*^y;answer y=t;");
        text(NAME, "unknown u:1;table t(a);answer x=t[^u=1];");
        text(NAME, "table t(a);table s(b);answer x=t[1=^b];");
        text(NAME, "table t(a);answer x=t[a=?^a];");
        text(NAME, "table t(a);answer x=t[a=a,^b=a];");
        text(NAME, "table t(a);answer x=t:(^t);");
        text(NAME, "table t(a);answer x=t{b=^c};");
        text(NAME, "table t(a);answer x=t{b=a}:(^a);");
        text(NAME, "table t(a,b);answer x=t:(b){c=^a};");
        text(NAME, "table t(a);answer x=t#(^n)count n;");
        text(NAME, "table t(a);answer x=t#(a)sum ^n n;");
        text(NAME, "table t(a);answer x=t#(a)least ^b n;");
        text(NAME, "table t(a,b);answer x=t#(a)most b n[^b=1];");
        text(NAME, "table t(a,b);answer x=t#(a)count n:(n,a)#()sum ^b n;");
        good("table t(a,b);answer x=t#(a)most b n[n=a]:(n)#(n)least n m{k=m}[k=n];");
        text(NAME, "table t(a);table s(b);answer x=(t*s)[a=b,b=1,a=1]:(^c);");
    }

    /** "KIND: a row with another number of TERMS than its TABLE has COLUMNS, or of an answer: at its TABLE". */
    private static void kindsOfRows() {
        for (int columns = 1; columns <= 4; columns++) {
            String table = "table t(" + "a,b,c,d".substring(0, 2 * columns - 1) + ");";
            for (int terms = 1; terms <= 6; terms++) {
                boolean fits = terms == columns;
                text(fits ? 0 : KIND, table + "row " + (fits ? "" : "^") + "t(1" + times(terms - 1, ",-1") + ");");
            }
        }
        text(KIND, "table t(a);answer x=t;row ^x(1);");
        text(KIND, "table t(a);answer x=t;row ^x(1,1);");
        text(KIND, "table t(a);answer x=t;row ^x(?u) if ?v=1;");
        text(KIND, "table t(a);row t(1);row ^t(1,?u) if ?v=1;");
    }

    /** "behind .. one below the first or more than 63 above it, in a list one that stands in it ahead". */
    private static void kindsOfInts() {
        good("unknown u:5..5;unknown v:-5..-5;unknown w:0..-0;");
        text(KIND, "unknown u:5..^4;");
        text(KIND, "unknown u:-5..^-6;");
        text(KIND, "unknown u:0..^-1;");
        text(KIND, "unknown u:9999..^-9999;");
        good("unknown u:0..63;");
        text(KIND, "unknown u:0..^64;");
        good("unknown u:-63..0;");
        text(KIND, "unknown u:-64..^0;");
        good("unknown u:-9999..-9936;");
        text(KIND, "unknown u:-9999..^-9935;");
        good("unknown u:9936..9999;");
        text(KIND, "unknown u:9935..^9999;");
        text(KIND, "unknown u:-9999..^9999;");
        good("unknown u:9999,-9999,0;");
        text(KIND, "unknown u:1,^1;");
        text(KIND, "unknown u:1,2,3,^1,2;");
        text(KIND, "unknown u:1,2,3,^3;");
        text(KIND, "unknown u:-7,7,^-7;");
        text(KIND, "unknown u:7,^0007,1;");
        text(KIND, "unknown u:0,^-0;");
        text(KIND, "unknown u:0" + counted(1, 15, ",%") + ",^0;");
        good("unknown u:1;unknown v:1;");
    }

    /** "at the ; of an unknown: there would be more than 1,024 WORLDS". */
    private static void kindsOfWorlds() {
        good("unknown u:1..32;unknown v:1..32;");
        text(KIND, "unknown u:1..25;unknown v:1..41^;");
        good("unknown u:1..33;unknown v:1..31;unknown w:1;");
        text(KIND, "unknown u:1..32;unknown v:1..33 ^;");
        text(KIND, "unknown u:1..64;unknown v:1,2,3,4,5,6,7,8,9,10,11,12,13,14,15,16;unknown w:1,2^;");
        good("unknown u:1..64;unknown v:1,2,3,4,5,6,7,8,9,10,11,12,13,14,15,16;unknown w:1;");
        text(KIND, counted(0, 5, "unknown u%:1..4;") + "unknown z:1;unknown y:1..2^;unknown x:0..64;");
        text(KIND, "unknown u:1..64;unknown v:1..64^;unknown w:1..64;");
        text(KIND, "unknown u:1..64;always ?u=1;unknown v:1..17^;");
    }

    /** "+ and -, if both have not the same COLUMNS in the same order, *, if more than 6 would come, #, if 6 ..". */
    private static void kindsOfSigns() {
        String told = "table t(a,b);table s(b,a);table r(a);table p(a,b,c);table q(c,d,e,f);table h(d,e,f,g);";
        for (String sign : new String[] {"+", "-"}) {
            good(told + "answer x=t" + sign + "t;");
            good(told + "answer x=t" + sign + "s:(a,b);");
            good(told + "answer x=t" + sign + "p:(a,b);");
            good(told + "answer x=t" + sign + "q:(c,d){a=c}{b=d};");
            text(KIND, told + "answer x=t^" + sign + "s;");
            text(KIND, told + "answer x=t^" + sign + "r;");
            text(KIND, told + "answer x=r^" + sign + "t;");
            text(KIND, told + "answer x=t^" + sign + "p;");
            text(KIND, told + "answer x=t^" + sign + "t{c=b};");
            text(KIND, told + "answer x=t" + sign + "t^" + sign + "r;");
        }
        good(told + "answer x=t*q;");
        good(told + "answer x=p*q;");
        text(KIND, told + "answer x=p^*h;");
        text(KIND, told + "answer x=t*q^*h;");
        good(told + "answer x=p*q*t*s*r;");
        text(KIND, told + "answer x=q*t^*h;");
        text(KIND, told + "answer x=t^*(q*h);");
        good(told + "answer x=(p*q)#(a,b,c,d,e)count n;");
        text(KIND, told + "answer x=(p*q)^#(a,b,c,d,e,f)count n;");
        text(KIND, told + "answer x=(p*q)^#(f,e,d,c,b,a)sum a a;");
        text(KIND, told + "answer x=(p*q)^#(a,b,c,d,e,f)most zz n;");
        good(told + "answer x=(p*q)#(a,b,c,d,e)count f#(f,e,d,c,b)sum a a;");
        good(told + "answer x=(p*q)#()count a;");
    }

    /** "(Where a Q has a FAULT, COLUMNS that hang on it are not looked for, and what both sides .. is not asked.)" */
    private static void hanging() {
        String told = "table t(a,b);table s(c);";
        text(NAME, told + "answer x=t:(^z)[y=1];");
        text(NAME, told + "answer x=^z:(y){w=v}#(u)count n;");
        text(TWICE, told + "answer x=t:(a,^a)[y=1];");
        text(NAME, told + "answer x=t+s:(^z);");
        text(NAME, told + "answer x=t-(s+^z);");
        text(NAME, told + "answer x=s[^a=1]+t;");
        text(KIND, told + "answer x=t^+s[c=1];");
        text(KIND, told + "answer x=t+(t^-s);");
        text(TWICE, told + "answer x=t-s{^c=c};");
        text(NAME, told + "table r(x,y,z);answer x=t{c=a}{d=b}*t*r:(^w);");
        text(KIND, told + "table r(x,y,z);answer x=t{c=a}{d=b}*t^*r{w=x};");
        text(NAME, told + "answer x=t+t:(^z);answer y=x:(z);row y(1);");
        text(NAME, told + "answer x=^x:(a);");
    }

    private static String rows(String table, int n) {
        return "table " + table + "(" + table + "1);" + counted(0, n, "row " + table + "(%);");
    }

    /** "FULL: at + * # (of + and * when both sides are worked out ..): more than 30 ROWS would come". */
    private static void fullOfSigns() {
        good(rows("a", 15) + rows("b", 15) + "answer x=a+b{a1=b1};");
        text(FULL, rows("a", 15) + rows("b", 16) + "answer x=a^+b{a1=b1};");
        text(FULL, rows("a", 30) + rows("b", 1) + "answer x=a^+b{a1=b1};");
        text(FULL, rows("a", 1) + rows("b", 30) + "answer x=a^+b{a1=b1};");
        good(rows("a", 30) + rows("b", 0) + "answer x=a+b{a1=b1};answer y=b{a1=b1}+a;answer z=a*b;");
        good(rows("a", 5) + rows("b", 6) + "answer x=a*b;");
        good(rows("a", 30) + rows("b", 1) + "answer x=a*b;answer y=b*a;");
        text(FULL, rows("a", 4) + rows("b", 8) + "answer x=a^*b;");
        text(FULL, rows("a", 16) + rows("b", 2) + "answer x=b^*a;");
        text(FULL, rows("a", 30) + rows("b", 30) + "answer x=a^*b;");
        good(rows("a", 30) + "answer x=a-a;answer y=x-a;answer z=x:(a1)[a1=1]{b=a1};");
        text(FULL, rows("a", 16) + "answer x=a[1=2]^+a;");
        text(FULL, rows("a", 6) + "answer x=a[1=2]^*a;");
        text(FULL, rows("a", 30) + "always 1=1;answer x=a^+a[a1=0];");
        text(FULL, rows("a", 6) + "answer x=a*(a^*a);");
        text(FULL, rows("a", 6) + "answer x=(a^*a)*(a*a);");
        text(FULL, rows("a", 6) + "answer x=(a+a+a)+(a+a+a^*a);");
        text(FULL, rows("a", 16) + "answer x=a^+a:(a1)+a;");
        text(FULL, rows("a", 10) + "answer x=a+a+a^+(a+a);");
        text(FULL, rows("a", 10) + "answer x=a+a+a;answer y=x;answer z=y^+a;");
        text(FULL, rows("a", 10) + "answer x=a+a+a+(a+a+a^+a);");
    }

    /** ".. of # its own": all groups of all WORLDS are its ROWS. */
    private static void fullOfGroups() {
        String told = "unknown u:1..31;table t(a,b);row t(?u,?u);";
        good(told + "answer x=t[a<=30]#(a)count n;");
        text(FULL, told + "answer x=t^#(a)count n;");
        text(FULL, told + "always ?u=1;answer x=t^#(a)count n;");
        text(FULL, told + "answer x=t^#()least b n;");
        good(told + "answer x=t[b!=31]#()least b n;");
        text(FULL, told + "answer x=t[b!=0]^#()sum b n#()count m;");
        good(told + "answer x=t#()count n;");
        text(FULL, told + "answer x=t#()count n+t:(a){n=a}#()count n+(t^#(b)count n):(n);");
        good(rows("a", 30) + "answer x=a#(a1)count n;");
        good("unknown u:0..31;" + rows("a", 29) + "row a(29) if ?u<30;answer x=a#(a1)count n;");
        text(FULL, "unknown u:0..31;" + rows("a", 29) + "row a(?u);answer x=a^#(a1)count n;");
        text(FULL, rows("a", 6) + "answer x=(a^*a)#(a1)count n;");
    }

    /** "NONE: at always: no WORLD would be left". */
    private static void noneLeft() {
        good("unknown u:1..3;always ?u!=1;always ?u!=2;");
        text(NONE_LEFT, "unknown u:1..3;always ?u!=1;always ?u!=2; ^always ?u!=3;");
        text(NONE_LEFT, "unknown u:1..3;^always ?u=4;always ?u=5;");
        text(NONE_LEFT, "^always 1=2;");
        good("always 1=1;always 2=2;");
        text(NONE_LEFT, times(11, "always 1=1;") + "^always 1=2;");
        good("unknown u:0..63;unknown v:0..15;always ?u=63&?v=15;");
        text(NONE_LEFT, "unknown u:0..63;unknown v:0..15;always ?u=63;^always ?u=0&?v=15;");
    }

    private static final String MANY = "table m(a);" + times(6, "row m(1);");
    private static final String[] FAULTS = {
        "always 1^;", "table p%(a,b,c,d,^e);", "table q%(a,^a);", "always ?^z%=1;", "unknown k%:2..^1;",
        "answer f%=m^*m;", "^always 1=2;"
    };

    /** "FAULTS, the first by its place"; "If there is none, likewise"; "If there is none, the first as .. worked out". */
    private static void orders() {
        for (int first = 1; first <= FAULTS.length; first++) {
            for (int second = 1; second <= FAULTS.length; second++) {
                boolean one = rank(first) <= rank(second);
                String ahead = FAULTS[first - 1].replace("%", "1");
                String behind = FAULTS[second - 1].replace("%", "2");
                text(one ? first : second, MANY + (one ? ahead + behind.replace("^", "") : ahead.replace("^", "") + behind));
            }
        }
    }

    private static int rank(int fault) {
        return fault <= ROOM ? 0 : fault <= KIND ? 1 : 2;
    }

    /** "of one place the least". */
    private static void samePlaces() {
        String thousand = "always " + times(248, "1=1&") + "!!!1=2;";
        text(SYNTAX, thousand + "^sum");
        text(ROOM, thousand + "^row");
        text(SYNTAX, "unknown u:0" + counted(1, 16, ",%") + ",^u;");
        text(TWICE, "table t(a);answer x=t{^a=z};");
        text(SYNTAX, "always ((((((((^);");
        text(SYNTAX, "table t(a);answer x=t" + times(40, "-t") + "^=;");
    }

    /** Of a COND that is learned or asked: "1, 2, 4, as in a text; 1, too, at what is behind it". */
    private static void cond(int fault, String marked) {
        DimShelf x = CHECK.shelf("unknown u:1..2;table t(a);");
        String text = marked.replace("^", "");
        CHECK.due("ask of " + brief(marked), Check.ask(x, text), fault == 0 ? 1 : -1);
        CHECK.due("its place in " + brief(marked), x.place(), marked.indexOf('^'));
        CHECK.due("learn of " + brief(marked), Check.learn(x, text), fault == 0 ? 1 : -1);
        CHECK.due("the place in " + brief(marked), x.place(), marked.indexOf('^'));
        CHECK.due("learned of it", x.count(5), fault == 0 ? 1 : 0);
    }

    private static void condOrders() {
        cond(0, "?u=1");
        cond(0, times(3996, " ") + "?u=1");
        cond(SYNTAX, times(3997, " ") + "?u=^");
        cond(SYNTAX, times(4000, " ") + "^");
        cond(SYNTAX, "?u=1 ^?u=1");
        cond(SYNTAX, "(?u=1)^)");
        cond(SYNTAX, "?z=1&?u=1^;");
        cond(SYNTAX, "?z=1&((((((((1=1)))))))^");
        cond(ROOM, "?z=1&!(((((((^(1=1))))))))");
        cond(ROOM, "((((((((^(1=1;");
        cond(SYNTAX, "1=^;(((((((((1=1");
        cond(NAME, "?^z=1&?y=1");
        cond(NAME, "?u=1|?^t=1");
        cond(SYNTAX, "^t=1");
        cond(0, times(249, "1=1&") + "?u<2");
        cond(ROOM, times(249, "1=1&") + "!?u<^2");
        cond(SYNTAX, times(249, "1=1&") + "?u<2^;");
        cond(SYNTAX, times(249, "1=1&") + "!?u<^;");
        cond(ROOM, times(249, "1=1&") + "?z<2^&");
        cond(NAME, times(249, "1=1&") + "?^z<2");
    }
}
