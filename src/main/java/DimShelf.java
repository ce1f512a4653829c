import java.util.Arrays;

/** A shelf of tables of which not every cell is known, and of questions that are worked out in all worlds. */
public final class DimShelf {
    public static final int NONE = -1;

    private static final int NO_VALUE = -100000;
    private static final int NO_WORLD_LEFT = -2;
    private static final int LEARNED_ENOUGH = -3;
    private static final int NOT_ALIKE = -2;
    private static final int LONGEST_TAPE = 4000;
    private static final int FED = 20;
    private static final int MOST_LEARNED = 8;

    private final char[] tape;
    private int bytes;
    private int faultPlace;
    private Shelf shelf;
    private Shelf spare;
    private final Tokens tokens;
    private final Plan plan;
    private final Parser parser;
    private final Checker checker;
    private final Worker worker;
    private final Listing listing;
    private final Reason reason;
    private final int[] line;
    private final int[] otherLine;

    public DimShelf() {
        tape = new char[LONGEST_TAPE];
        bytes = 0;
        faultPlace = NONE;
        shelf = new Shelf();
        spare = new Shelf();
        tokens = new Tokens();
        plan = new Plan();
        parser = new Parser(tokens, plan);
        checker = new Checker(tokens, plan);
        worker = new Worker(tokens, plan);
        listing = new Listing();
        reason = new Reason();
        line = new int[Rows.MOST];
        otherLine = new int[Rows.MOST];
    }

    public int feed(int a, int b, int c, int d, int e) {
        if (bytes > LONGEST_TAPE - FED) {
            return NONE;
        }
        put(a);
        put(b);
        put(c);
        put(d);
        put(e);
        return bytes;
    }

    public int back(int n) {
        if (n < 0 || n > bytes) {
            return NONE;
        }
        bytes -= n;
        return bytes;
    }

    public int read() {
        spare.empty();
        understand(Grammar.TEXT, spare);
        if (plan.fault == Plan.NO_FAULT) {
            worker.work(spare);
        }
        faultPlace = plan.fault == Plan.NO_FAULT ? NONE : plan.place;
        if (plan.fault == Plan.NO_FAULT) {
            Shelf old = shelf;
            shelf = spare;
            spare = old;
            forget();
        }
        return plan.fault;
    }

    public int place() {
        return faultPlace;
    }

    public int learn() {
        understand(Grammar.COND, shelf);
        if (!judged()) {
            return NONE;
        }
        if (shelf.heldWith(worker) == 0) {
            return NO_WORLD_LEFT;
        }
        if (shelf.learned >= MOST_LEARNED) {
            return LEARNED_ENOUGH;
        }
        shelf.addPart(worker);
        shelf.learned++;
        forget();
        return shelf.holding;
    }

    public boolean undo() {
        if (shelf.learned <= 0) {
            return false;
        }
        shelf.learned--;
        shelf.dropPart();
        forget();
        return true;
    }

    public int ask() {
        understand(Grammar.COND, shelf);
        if (!judged()) {
            return NONE;
        }
        shelf.keepAsked(worker);
        reason.forget();
        return shelf.heldWith(worker);
    }

    public int why(int i) {
        return reason.part(shelf, i);
    }

    public int value(int k, int u) {
        int world = shelf.heldWorld(k);
        if (world < 0 || u < 0 || u >= shelf.unknowns) {
            return NO_VALUE;
        }
        return shelf.valueIn(world, u);
    }

    public int table(int t, int what) {
        Rows rows = shelf.rowsOf(t);
        if (rows == null) {
            return NONE;
        }
        switch (what) {
            case 0:
                return rows.height;
            case 1:
                return rows.width;
            case 2:
                return shelf.isAnswer(t) ? 1 : 0;
            case 3:
            case 4:
            case 5:
            case 6:
                listing.gather(shelf, t);
                return what == 3 ? listing.fewest : what == 4 ? listing.most
                    : what == 5 ? listing.sures : listing.length;
            default:
                return NONE;
        }
    }

    public int term(int t, int r, int c, int what) {
        Rows rows = shelf.rowsOf(t);
        if (rows == null || r < 0 || r >= rows.height || c < 0 || c >= rows.width) {
            return NO_VALUE;
        }
        switch (what) {
            case 0:
                return rows.isOpen(r, c) ? 1 : 0;
            case 1:
                return rows.termAt(r, c);
            default:
                return NO_VALUE;
        }
    }

    public int many(int t, int r) {
        Rows rows = shelf.rowsOf(t);
        if (rows == null || r < 0 || r >= rows.height) {
            return NONE;
        }
        int worlds = 0;
        for (int k = 0; k < shelf.holding; k++) {
            if (rows.has(r, shelf.heldWorld(k))) {
                worlds++;
            }
        }
        return worlds;
    }

    public boolean holds(int t, int r, int k) {
        Rows rows = shelf.rowsOf(t);
        int world = shelf.heldWorld(k);
        return rows != null && world >= 0 && r >= 0 && r < rows.height && rows.has(r, world);
    }

    public int size(int t, int k) {
        Rows rows = shelf.rowsOf(t);
        int world = shelf.heldWorld(k);
        if (rows == null || world < 0) {
            return NONE;
        }
        return rows.lineUp(shelf, world, line);
    }

    public int cell(int t, int k, int i, int c) {
        Rows rows = shelf.rowsOf(t);
        int world = shelf.heldWorld(k);
        if (rows == null || world < 0 || c < 0 || c >= rows.width) {
            return NO_VALUE;
        }
        int length = rows.lineUp(shelf, world, line);
        if (i < 0 || i >= length || i >= line.length) {
            return NO_VALUE;
        }
        return rows.cellIn(shelf, line[i], c, world);
    }

    public int sure(int t, int i, int c) {
        if (shelf.rowsOf(t) == null) {
            return NO_VALUE;
        }
        listing.gather(shelf, t);
        return listedCell(shelf.rowsOf(t), listing.sureRef(i), c);
    }

    public int maybe(int t, int i, int c) {
        if (shelf.rowsOf(t) == null) {
            return NO_VALUE;
        }
        listing.gather(shelf, t);
        return listedCell(shelf.rowsOf(t), listing.ref(i), c);
    }

    public int often(int t, int i) {
        if (shelf.rowsOf(t) == null) {
            return NONE;
        }
        listing.gather(shelf, t);
        int ref = listing.ref(i);
        return ref < 0 ? NONE : Listing.worldsOf(ref);
    }

    public int same(int t, int s) {
        Rows rows = shelf.rowsOf(t);
        Rows other = shelf.rowsOf(s);
        if (rows == null || other == null || rows.width != other.width) {
            return NOT_ALIKE;
        }
        for (int k = 0; k < shelf.holding; k++) {
            if (!agree(rows, other, shelf.heldWorld(k))) {
                return k;
            }
        }
        return NONE;
    }

    public int count(int what) {
        switch (what) {
            case 0:
                return shelf.holding;
            case 1:
                return shelf.all;
            case 2:
                return shelf.unknowns;
            case 3:
                return shelf.tables;
            case 4:
                return shelf.parts;
            case 5:
                return shelf.learned;
            case 6:
                return bytes;
            default:
                return NONE;
        }
    }

    private void put(int word) {
        for (int shift = 24; shift >= 0; shift -= 8) {
            if (bytes < tape.length) {
                tape[bytes] = (char) (word >> shift & 255);
                bytes++;
            }
        }
    }

    /** Takes the tape for what the start of the grammar tells, and looks up its names in the shelf. */
    private void understand(int start, Shelf told) {
        tokens.scan(tape, bytes);
        bytes = 0;
        plan.empty();
        parser.parse(start);
        if (plan.fault == Plan.NO_FAULT) {
            checker.check(told);
        }
    }

    /** If the tape was a COND without a fault, the worker knows then in which worlds it holds. */
    private boolean judged() {
        faultPlace = plan.fault == Plan.NO_FAULT ? NONE : plan.place;
        if (plan.fault != Plan.NO_FAULT) {
            return false;
        }
        worker.judge(shelf);
        return true;
    }

    private void forget() {
        listing.forget();
        reason.forget();
    }

    private int listedCell(Rows rows, int ref, int column) {
        if (rows == null || ref < 0 || column < 0 || column >= rows.width) {
            return NO_VALUE;
        }
        return rows.cellIn(shelf, Listing.rowOf(ref), column, Listing.worldOf(ref));
    }

    private boolean agree(Rows rows, Rows other, int world) {
        int length = rows.lineUp(shelf, world, line);
        if (other.lineUp(shelf, world, otherLine) != length) {
            return false;
        }
        for (int i = 0; i < length && i < line.length && i < otherLine.length; i++) {
            if (rows.against(shelf, line[i], world, other, otherLine[i], world) != 0) {
                return false;
            }
        }
        return true;
    }

    /** The tokens of a tape, up to the first that is none or to one more than a text may have. */
    private static final class Tokens {
        static final int MOST = 1000;
        private static final int LONGEST_NAME = 8;
        private static final int LONGEST_NUMBER = 4;
        /* The ten words of the grammar, packed as a NAME is; their order is that of the kinds in Grammar. */
        private static final long[] WORDS = {
            0x756e6b6e6f776eL, 0x7461626c65L, 0x726f77L, 0x6966L, 0x616c77617973L,
            0x616e73776572L, 0x636f756e74L, 0x6c65617374L, 0x6d6f7374L, 0x73756dL
        };

        private final int[] kinds = new int[MOST + 2];
        private final int[] starts = new int[MOST + 2];
        private final long[] words = new long[MOST + 2];
        private int length;

        int kindAt(int token) {
            return token >= 0 && token < kinds.length ? kinds[token] : Grammar.BAD;
        }

        int startAt(int token) {
            return token >= 0 && token < starts.length ? starts[token] : 0;
        }

        long wordAt(int token) {
            return token >= 0 && token < words.length ? words[token] : 0;
        }

        /** The value of the INT whose first token this is. */
        int intAt(int token) {
            if (token < 0 || token + 1 >= kinds.length || token + 1 >= words.length) {
                return 0;
            }
            return kinds[token] == '-' ? (int) -words[token + 1] : (int) words[token];
        }

        void scan(char[] text, int end) {
            length = 0;
            boolean going = true;
            int at = 0;
            while (going && at < end && at < text.length) {
                char sign = text[at];
                if (isBlank(sign)) {
                    at++;
                } else {
                    int next = scanOne(text, end, at);
                    going = next > at && length <= MOST;
                    at = next;
                }
            }
            add(Grammar.END, end, 0);
        }

        /** Adds the token that starts here; where the next may start, or here again if this is none. */
        private int scanOne(char[] text, int end, int at) {
            char sign = at < text.length ? text[at] : 0;
            if (isLetter(sign)) {
                return scanName(text, end, at);
            }
            if (isDigit(sign)) {
                return scanNumber(text, end, at);
            }
            char behind = at + 1 < end && at + 1 < text.length ? text[at + 1] : 0;
            if (sign == '.' && behind == '.') {
                add(Grammar.DOTS, at, 0);
                return at + 2;
            }
            if (behind == '=' && (sign == '!' || sign == '<')) {
                add(sign == '!' ? Grammar.UNLIKE : Grammar.AT_MOST, at, 0);
                return at + 2;
            }
            if (!isSign(sign)) {
                add(Grammar.BAD, at, 0);
                return at;
            }
            add(sign, at, 0);
            return at + 1;
        }

        private int scanName(char[] text, int end, int at) {
            int next = at;
            long word = 0;
            while (next < end && next < text.length && (isLetter(text[next]) || isDigit(text[next]))) {
                word = word << 8 | text[next];
                next++;
            }
            if (next - at > LONGEST_NAME) {
                add(Grammar.BAD, at, 0);
                return at;
            }
            add(kindOf(word), at, word);
            return next;
        }

        private int scanNumber(char[] text, int end, int at) {
            int next = at;
            long number = 0;
            while (next < end && next < text.length && isDigit(text[next])) {
                number = number * 10 + (text[next] - '0');
                next++;
            }
            if (next - at > LONGEST_NUMBER) {
                add(Grammar.BAD, at, 0);
                return at;
            }
            add(Grammar.NUMBER, at, number);
            return next;
        }

        private void add(int kind, int start, long word) {
            if (length < kinds.length && length < starts.length && length < words.length) {
                kinds[length] = kind;
                starts[length] = start;
                words[length] = word;
                length++;
            }
        }

        private static int kindOf(long word) {
            for (int i = 0; i < WORDS.length; i++) {
                if (WORDS[i] == word) {
                    return Grammar.FIRST_WORD + i;
                }
            }
            return Grammar.NAME;
        }

        private static boolean isBlank(char sign) {
            return sign == 9 || sign == 10 || sign == 13 || sign == 32;
        }

        private static boolean isLetter(char sign) {
            return sign >= 'a' && sign <= 'z';
        }

        private static boolean isDigit(char sign) {
            return sign >= '0' && sign <= '9';
        }

        private static boolean isSign(int sign) {
            switch (sign) {
                case '(':
                case ')':
                case '[':
                case ']':
                case '{':
                case '}':
                case ',':
                case ';':
                case ':':
                case '?':
                case '#':
                case '+':
                case '-':
                case '*':
                case '=':
                case '<':
                case '&':
                case '|':
                case '!':
                    return true;
                default:
                    return false;
            }
        }
    }

    /**
     * The grammar, such that the next token alone decides how a part goes on. A rule is a row of symbols:
     * kinds of tokens (a sign is its own kind), parts, and notes of what is told by then.
     */
    private static final class Grammar {
        static final int END = 1;
        static final int BAD = 2;
        static final int NAME = 3;
        static final int NUMBER = 4;
        static final int DOTS = 5;
        static final int UNLIKE = 6;
        static final int AT_MOST = 7;

        static final int FIRST_WORD = 10;
        static final int UNKNOWN_WORD = 10;
        static final int TABLE_WORD = 11;
        static final int ROW_WORD = 12;
        static final int IF_WORD = 13;
        static final int ALWAYS_WORD = 14;
        static final int ANSWER_WORD = 15;
        static final int COUNT_WORD = 16;
        static final int LEAST_WORD = 17;
        static final int MOST_WORD = 18;
        static final int SUM_WORD = 19;

        static final int FIRST_PART = 130;
        static final int TEXT = 130;
        static final int LISTED = 131;
        static final int MORE_INTS = 132;
        static final int MORE_LISTED = 133;
        static final int LAST = 134;
        static final int MORE_COLUMNS = 135;
        static final int MORE_TERMS = 136;
        static final int ROW_COND = 137;
        static final int COND = 138;
        static final int MORE_OR = 139;
        static final int BOTH = 140;
        static final int MORE_AND = 141;
        static final int LITERAL = 142;
        static final int RELATION = 143;
        static final int TERM = 144;
        static final int QUERY = 145;
        static final int MORE_SUMS = 146;
        static final int JOINED = 147;
        static final int MORE_JOINS = 148;
        static final int SOURCE = 149;
        static final int STEPS = 150;
        static final int TESTED = 151;
        static final int MORE_TESTS = 152;
        static final int SIDE = 153;
        static final int MORE_PICKS = 154;
        static final int GROUP_NAMES = 155;
        static final int FOLDED = 156;

        static final int FIRST_NOTE = 170;
        static final int OPEN = 170;
        static final int SHUT = 171;
        static final int SIGN = 172;
        static final int NEW_UNKNOWN = 180;
        static final int LIST_INT = 181;
        static final int LAST_INT = 182;
        static final int END_UNKNOWN = 183;
        static final int NEW_TABLE = 184;
        static final int NEW_COLUMN = 185;
        static final int NEW_ROW = 186;
        static final int ROW_TERM = 187;
        static final int ROW_IF = 188;
        static final int NEW_PART = 189;
        static final int END_PART = 190;
        static final int NEW_ANSWER = 191;
        static final int END_ANSWER = 192;
        static final int TERM_INT = 200;
        static final int TERM_UNKNOWN = 201;
        static final int TERM_COLUMN = 202;
        static final int KEEP_RELATION = 203;
        static final int COMPARE = 204;
        static final int NOT = 205;
        static final int AND = 206;
        static final int OR = 207;
        static final int FIRST_QUERY_NOTE = 210;
        static final int LOAD = 210;
        static final int PLUS = 211;
        static final int MINUS = 212;
        static final int JOIN = 213;
        static final int TEST = 214;
        static final int PICK_START = 215;
        static final int PICK = 216;
        static final int PROJECT = 217;
        static final int RENAME_NEW = 218;
        static final int RENAME_OLD = 219;
        static final int GROUP_NAMED = 220;
        static final int FOLD = 221;
        static final int FOLD_COLUMN = 222;
        static final int GROUP = 223;

        private static final int[] EMPTY = {};
        private static final int[] TELL_UNKNOWN = {
            UNKNOWN_WORD, NAME, NEW_UNKNOWN, ':', LISTED, MORE_INTS, ';', END_UNKNOWN, TEXT
        };
        private static final int[] TELL_TABLE = {
            TABLE_WORD, NAME, NEW_TABLE, '(', NAME, NEW_COLUMN, MORE_COLUMNS, ')', ';', TEXT
        };
        private static final int[] TELL_ROW = {
            ROW_WORD, NAME, NEW_ROW, '(', TERM, ROW_TERM, MORE_TERMS, ')', ROW_COND, ';', TEXT
        };
        private static final int[] TELL_ALWAYS = {ALWAYS_WORD, NEW_PART, COND, ';', END_PART, TEXT};
        private static final int[] TELL_ANSWER = {
            ANSWER_WORD, NAME, NEW_ANSWER, '=', QUERY, ';', END_ANSWER, TEXT
        };
        private static final int[] LISTED_BELOW = {'-', LIST_INT, NUMBER};
        private static final int[] LISTED_PLAIN = {NUMBER, LIST_INT};
        private static final int[] LAST_BELOW = {'-', LAST_INT, NUMBER};
        private static final int[] LAST_PLAIN = {NUMBER, LAST_INT};
        private static final int[] UP_TO = {DOTS, LAST};
        private static final int[] ONE_MORE_LISTED = {',', LISTED, MORE_LISTED};
        private static final int[] ONE_MORE_COLUMN = {',', NAME, NEW_COLUMN, MORE_COLUMNS};
        private static final int[] ONE_MORE_TERM = {',', TERM, ROW_TERM, MORE_TERMS};
        private static final int[] IF_COND = {IF_WORD, COND, ROW_IF};
        private static final int[] ANY_OF = {BOTH, MORE_OR};
        private static final int[] ONE_MORE_OR = {'|', BOTH, OR, MORE_OR};
        private static final int[] ALL_OF = {LITERAL, MORE_AND};
        private static final int[] ONE_MORE_AND = {'&', LITERAL, AND, MORE_AND};
        private static final int[] NOT_LITERAL = {'!', OPEN, LITERAL, SHUT, NOT};
        private static final int[] COND_IN_BRACKETS = {'(', OPEN, COND, ')', SHUT};
        private static final int[] COMPARED = {TERM, RELATION, TERM, COMPARE};
        private static final int[] EQUAL_SIGN = {'=', KEEP_RELATION};
        private static final int[] UNLIKE_SIGN = {UNLIKE, KEEP_RELATION};
        private static final int[] BELOW_SIGN = {'<', KEEP_RELATION};
        private static final int[] AT_MOST_SIGN = {AT_MOST, KEEP_RELATION};
        private static final int[] UNKNOWN_TERM = {'?', NAME, TERM_UNKNOWN};
        private static final int[] BELOW_TERM = {'-', TERM_INT, NUMBER};
        private static final int[] PLAIN_TERM = {NUMBER, TERM_INT};
        private static final int[] SUMMED = {JOINED, MORE_SUMS};
        private static final int[] ONE_MORE_PLUS = {'+', SIGN, JOINED, PLUS, MORE_SUMS};
        private static final int[] ONE_MORE_MINUS = {'-', SIGN, JOINED, MINUS, MORE_SUMS};
        private static final int[] MULTIPLIED = {SOURCE, MORE_JOINS};
        private static final int[] ONE_MORE_JOIN = {'*', SIGN, SOURCE, JOIN, MORE_JOINS};
        private static final int[] QUERY_IN_BRACKETS = {'(', OPEN, QUERY, ')', SHUT, STEPS};
        private static final int[] TABLE_NAMED = {NAME, LOAD, STEPS};
        private static final int[] STEP_TESTS = {'[', TESTED, MORE_TESTS, ']', STEPS};
        private static final int[] STEP_PICKS = {
            ':', '(', PICK_START, NAME, PICK, MORE_PICKS, ')', PROJECT, STEPS
        };
        private static final int[] STEP_RENAME = {'{', NAME, RENAME_NEW, '=', NAME, RENAME_OLD, '}', STEPS};
        private static final int[] STEP_GROUP = {
            '#', SIGN, '(', PICK_START, GROUP_NAMES, ')', GROUP_NAMED, FOLDED, NAME, GROUP, STEPS
        };
        private static final int[] ONE_TEST = {SIDE, RELATION, SIDE, TEST};
        private static final int[] ONE_MORE_TEST = {',', TESTED, MORE_TESTS};
        private static final int[] COLUMN_SIDE = {NAME, TERM_COLUMN};
        private static final int[] TERM_SIDE = {TERM};
        private static final int[] FIRST_PICK = {NAME, PICK, MORE_PICKS};
        private static final int[] ONE_MORE_PICK = {',', NAME, PICK, MORE_PICKS};
        private static final int[] FOLD_COUNT = {COUNT_WORD, FOLD};
        private static final int[] FOLD_LEAST = {LEAST_WORD, FOLD, NAME, FOLD_COLUMN};
        private static final int[] FOLD_MOST = {MOST_WORD, FOLD, NAME, FOLD_COLUMN};
        private static final int[] FOLD_SUM = {SUM_WORD, FOLD, NAME, FOLD_COLUMN};

        /** How the part goes on with the next token; null if it cannot. */
        static int[] rule(int part, int next) {
            if (part < COND) {
                return part == TEXT ? textRule(next) : tellRule(part, next);
            }
            return part < QUERY ? condRule(part, next) : queryRule(part, next);
        }

        private static int[] textRule(int next) {
            switch (next) {
                case UNKNOWN_WORD:
                    return TELL_UNKNOWN;
                case TABLE_WORD:
                    return TELL_TABLE;
                case ROW_WORD:
                    return TELL_ROW;
                case ALWAYS_WORD:
                    return TELL_ALWAYS;
                case ANSWER_WORD:
                    return TELL_ANSWER;
                case END:
                    return EMPTY;
                default:
                    return null;
            }
        }

        private static int[] tellRule(int part, int next) {
            switch (part) {
                case LISTED:
                    return next == '-' ? LISTED_BELOW : next == NUMBER ? LISTED_PLAIN : null;
                case LAST:
                    return next == '-' ? LAST_BELOW : next == NUMBER ? LAST_PLAIN : null;
                case MORE_INTS:
                    return next == DOTS ? UP_TO : next == ',' ? ONE_MORE_LISTED : EMPTY;
                case MORE_LISTED:
                    return next == ',' ? ONE_MORE_LISTED : EMPTY;
                case MORE_COLUMNS:
                    return next == ',' ? ONE_MORE_COLUMN : EMPTY;
                case MORE_TERMS:
                    return next == ',' ? ONE_MORE_TERM : EMPTY;
                case ROW_COND:
                    return next == IF_WORD ? IF_COND : EMPTY;
                default:
                    return null;
            }
        }

        private static int[] condRule(int part, int next) {
            switch (part) {
                case COND:
                    return ANY_OF;
                case MORE_OR:
                    return next == '|' ? ONE_MORE_OR : EMPTY;
                case BOTH:
                    return ALL_OF;
                case MORE_AND:
                    return next == '&' ? ONE_MORE_AND : EMPTY;
                case LITERAL:
                    return next == '!' ? NOT_LITERAL : next == '(' ? COND_IN_BRACKETS : COMPARED;
                case RELATION:
                    return relationRule(next);
                case TERM:
                    return next == '?' ? UNKNOWN_TERM : next == '-' ? BELOW_TERM
                        : next == NUMBER ? PLAIN_TERM : null;
                default:
                    return null;
            }
        }

        private static int[] relationRule(int next) {
            switch (next) {
                case '=':
                    return EQUAL_SIGN;
                case UNLIKE:
                    return UNLIKE_SIGN;
                case '<':
                    return BELOW_SIGN;
                case AT_MOST:
                    return AT_MOST_SIGN;
                default:
                    return null;
            }
        }

        private static int[] queryRule(int part, int next) {
            switch (part) {
                case QUERY:
                    return SUMMED;
                case MORE_SUMS:
                    return next == '+' ? ONE_MORE_PLUS : next == '-' ? ONE_MORE_MINUS : EMPTY;
                case JOINED:
                    return MULTIPLIED;
                case MORE_JOINS:
                    return next == '*' ? ONE_MORE_JOIN : EMPTY;
                case SOURCE:
                    return next == '(' ? QUERY_IN_BRACKETS : next == NAME ? TABLE_NAMED : null;
                case STEPS:
                    return stepRule(next);
                case TESTED:
                    return ONE_TEST;
                case MORE_TESTS:
                    return next == ',' ? ONE_MORE_TEST : EMPTY;
                case SIDE:
                    return next == NAME ? COLUMN_SIDE : TERM_SIDE;
                case MORE_PICKS:
                    return next == ',' ? ONE_MORE_PICK : EMPTY;
                case GROUP_NAMES:
                    return next == NAME ? FIRST_PICK : EMPTY;
                case FOLDED:
                    return foldRule(next);
                default:
                    return null;
            }
        }

        private static int[] stepRule(int next) {
            switch (next) {
                case '[':
                    return STEP_TESTS;
                case ':':
                    return STEP_PICKS;
                case '{':
                    return STEP_RENAME;
                case '#':
                    return STEP_GROUP;
                default:
                    return EMPTY;
            }
        }

        private static int[] foldRule(int next) {
            switch (next) {
                case COUNT_WORD:
                    return FOLD_COUNT;
                case LEAST_WORD:
                    return FOLD_LEAST;
                case MOST_WORD:
                    return FOLD_MOST;
                case SUM_WORD:
                    return FOLD_SUM;
                default:
                    return null;
            }
        }
    }

    /** What a text told, as notes in the order of its work, and its first fault. */
    private static final class Plan {
        static final int NO_FAULT = 0;
        static final int SYNTAX = 1;
        static final int ROOM = 2;
        static final int TWICE = 3;
        static final int NAME = 4;
        static final int KIND = 5;
        static final int FULL = 6;
        static final int NONE_LEFT = 7;
        private static final int MOST = 2500;

        private final int[] notes = new int[MOST];
        private final int[] nears = new int[MOST];
        private final int[] leads = new int[MOST];
        private final int[] args = new int[MOST];
        private int length;
        private int fault;
        private int place;

        void empty() {
            length = 0;
            fault = NO_FAULT;
            place = 0;
        }

        /** Notes what is told, the token taken last, and the token with which its rule began. */
        void add(int note, int near, int lead, int arg) {
            if (length < MOST) {
                notes[length] = note;
                nears[length] = near;
                leads[length] = lead;
                args[length] = arg;
                length++;
            }
        }

        void fail(int number, int at) {
            if (fault == NO_FAULT || at < place || at == place && number < fault) {
                fault = number;
                place = at;
            }
        }

        int noteAt(int i) {
            return i >= 0 && i < notes.length ? notes[i] : 0;
        }

        int nearAt(int i) {
            return i >= 0 && i < nears.length ? nears[i] : 0;
        }

        int leadAt(int i) {
            return i >= 0 && i < leads.length ? leads[i] : 0;
        }

        int argAt(int i) {
            return i >= 0 && i < args.length ? args[i] : 0;
        }

        void setArg(int i, int arg) {
            if (i >= 0 && i < args.length) {
                args[i] = arg;
            }
        }
    }

    /** Reads the tokens by the grammar, notes what they tell, and finds SYNTAX and ROOM. */
    private static final class Parser {
        private static final int DEEPEST = 512;
        private static final int MOST_STEPS = 1000000;
        private static final int MOST_COLUMNS_TOLD = 4;
        private static final int MOST_ALWAYS = 12;
        private static final int MOST_SIGNS = 40;
        private static final int MOST_LISTED = 16;
        private static final int MOST_OPEN = 8;

        private final Tokens tokens;
        private final Plan plan;
        /* Each symbol in its low 8 bits, above them the token with which its rule began. */
        private final int[] stack = new int[DEEPEST];
        private final long[] names = new long[Shelf.MOST_TABLES];
        private final int[] rows = new int[Shelf.MOST_TABLES];
        private int depth;
        private int next;
        private int near;
        private int unknowns;
        private int tables;
        private int columns;
        private int always;
        private int signs;
        private int listed;
        private int open;
        private int rowNote;

        Parser(Tokens tokens, Plan plan) {
            this.tokens = tokens;
            this.plan = plan;
        }

        void parse(int start) {
            next = 0;
            near = 0;
            unknowns = 0;
            tables = 0;
            columns = 0;
            always = 0;
            signs = 0;
            listed = 0;
            open = 0;
            rowNote = NONE;
            depth = 0;
            push(Grammar.END);
            push(start);
            for (int step = 0; step < MOST_STEPS && depth > 0 && plan.fault == Plan.NO_FAULT; step++) {
                depth--;
                int top = depth < stack.length ? stack[depth] : 0;
                int symbol = top & 255;
                if (symbol >= Grammar.FIRST_NOTE) {
                    note(symbol, top >> 8);
                } else if (symbol >= Grammar.FIRST_PART) {
                    expand(symbol);
                } else {
                    take(symbol);
                }
            }
        }

        private void push(int symbol) {
            if (depth >= 0 && depth < stack.length) {
                stack[depth] = next << 8 | symbol;
                depth++;
            }
        }

        private void expand(int part) {
            int[] rule = Grammar.rule(part, tokens.kindAt(next));
            if (rule == null) {
                plan.fail(Plan.SYNTAX, tokens.startAt(next));
                return;
            }
            for (int i = rule.length - 1; i >= 0; i--) {
                push(rule[i]);
            }
        }

        private void take(int kind) {
            if (tokens.kindAt(next) != kind) {
                plan.fail(Plan.SYNTAX, tokens.startAt(next));
                return;
            }
            if (next >= Tokens.MOST && kind != Grammar.END) {
                plan.fail(Plan.ROOM, tokens.startAt(next));
            }
            near = next;
            next++;
        }

        private void note(int note, int lead) {
            if (hasRoom(note)) {
                keep(note, lead);
            } else {
                plan.fail(Plan.ROOM, tokens.startAt(near));
            }
        }

        private boolean hasRoom(int note) {
            switch (note) {
                case Grammar.NEW_UNKNOWN:
                    listed = 0;
                    unknowns++;
                    return unknowns <= Shelf.MOST_UNKNOWNS;
                case Grammar.NEW_TABLE:
                case Grammar.NEW_ANSWER:
                    columns = 0;
                    return hasRoomForTable();
                case Grammar.NEW_COLUMN:
                    columns++;
                    return columns <= MOST_COLUMNS_TOLD;
                case Grammar.NEW_ROW:
                    return hasRoomForRow();
                case Grammar.NEW_PART:
                    always++;
                    return always <= MOST_ALWAYS;
                case Grammar.SIGN:
                    signs++;
                    return signs <= MOST_SIGNS;
                case Grammar.LIST_INT:
                    listed++;
                    return listed <= MOST_LISTED;
                case Grammar.OPEN:
                    open++;
                    return open <= MOST_OPEN;
                case Grammar.SHUT:
                    open--;
                    return true;
                default:
                    return true;
            }
        }

        private boolean hasRoomForTable() {
            if (tables < 0 || tables >= names.length || tables >= rows.length) {
                return false;
            }
            names[tables] = tokens.wordAt(near);
            rows[tables] = 0;
            tables++;
            return true;
        }

        /* Rows are counted by the NAME of their TABLE, since whether there is one is a later question. */
        private boolean hasRoomForRow() {
            long name = tokens.wordAt(near);
            for (int i = 0; i < tables && i < names.length && i < rows.length; i++) {
                if (names[i] == name) {
                    rows[i]++;
                    return rows[i] <= Rows.MOST;
                }
            }
            return true;
        }

        private void keep(int note, int lead) {
            switch (note) {
                case Grammar.OPEN:
                case Grammar.SHUT:
                case Grammar.SIGN:
                    return;
                case Grammar.NEW_ROW:
                    rowNote = plan.length;
                    break;
                case Grammar.ROW_TERM:
                    plan.setArg(rowNote, plan.argAt(rowNote) + 1);
                    break;
                default:
                    break;
            }
            plan.add(note, near, lead, 0);
        }
    }

    /** Looks up the names that a plan tells, and finds TWICE, NAME and KIND. */
    private static final class Checker {
        private static final int FARTHEST = 63;
        private static final int NEW_BEHIND = 7;

        private final Tokens tokens;
        private final Plan plan;
        private Shelf shelf;
        /* The COLUMNS of each Q that is worked out and not used yet, the latest last. */
        private final long[] columns = new long[Worker.DEEPEST * Shelf.MOST_COLUMNS];
        private final int[] widths = new int[Worker.DEEPEST];
        private int depth;
        private final long[] picks = new long[Shelf.MOST_COLUMNS];
        private int picked;
        private long fresh;

        Checker(Tokens tokens, Plan plan) {
            this.tokens = tokens;
            this.plan = plan;
        }

        /** A bracket of picks is gone through behind a fault, too: what stands at its # is ahead of it. */
        void check(Shelf told) {
            shelf = told;
            depth = 0;
            picked = 0;
            for (int i = 0; i < plan.length; i++) {
                int note = plan.noteAt(i);
                if (plan.fault != Plan.NO_FAULT && note != Grammar.PICK && note != Grammar.GROUP_NAMED) {
                    return;
                }
                if (note >= Grammar.FIRST_QUERY_NOTE) {
                    checkQuery(note, i);
                } else if (note >= Grammar.TERM_INT) {
                    checkTerm(note, i);
                } else {
                    checkTold(note, i);
                }
            }
        }

        private void failNear(int number, int i) {
            plan.fail(number, tokens.startAt(plan.nearAt(i)));
        }

        private void failLead(int number, int i) {
            plan.fail(number, tokens.startAt(plan.leadAt(i)));
        }

        private long wordNear(int i) {
            return tokens.wordAt(plan.nearAt(i));
        }

        private int intNear(int i) {
            return tokens.intAt(plan.nearAt(i));
        }

        private void checkTold(int note, int i) {
            switch (note) {
                case Grammar.NEW_UNKNOWN:
                    if (shelf.unknownNamed(wordNear(i)) >= 0) {
                        failNear(Plan.TWICE, i);
                    } else {
                        shelf.startUnknown(wordNear(i));
                    }
                    break;
                case Grammar.LIST_INT:
                    if (!shelf.list(intNear(i))) {
                        failNear(Plan.KIND, i);
                    }
                    break;
                case Grammar.LAST_INT:
                    checkLast(i);
                    break;
                case Grammar.END_UNKNOWN:
                    if (!shelf.endUnknown()) {
                        failNear(Plan.KIND, i);
                    }
                    break;
                case Grammar.NEW_TABLE:
                    if (isNewTable(i)) {
                        shelf.addTable(wordNear(i), false);
                    }
                    break;
                case Grammar.NEW_COLUMN:
                    if (!shelf.addColumn(wordNear(i))) {
                        failNear(Plan.TWICE, i);
                    }
                    break;
                case Grammar.NEW_ROW:
                    checkRow(i);
                    break;
                case Grammar.NEW_ANSWER:
                    isNewTable(i);
                    break;
                case Grammar.END_ANSWER:
                    endAnswer(i);
                    break;
                default:
                    break;
            }
        }

        private void checkLast(int i) {
            int last = intNear(i);
            int first = shelf.firstListed();
            if (last < first || last > first + FARTHEST) {
                failNear(Plan.KIND, i);
                return;
            }
            for (int number = first + 1; number <= last; number++) {
                shelf.list(number);
            }
        }

        private boolean isNewTable(int i) {
            if (shelf.tableNamed(wordNear(i)) >= 0) {
                failNear(Plan.TWICE, i);
                return false;
            }
            return true;
        }

        /** The note of a row bears the number of its TERMS, and now its TABLE. */
        private void checkRow(int i) {
            int told = shelf.tableNamed(wordNear(i));
            Rows rows = shelf.rowsOf(told);
            if (rows == null) {
                failNear(Plan.NAME, i);
                return;
            }
            if (shelf.isAnswer(told) || rows.width != plan.argAt(i)) {
                failNear(Plan.KIND, i);
            }
            plan.setArg(i, told);
        }

        private void endAnswer(int i) {
            plan.setArg(i, shelf.addTable(tokens.wordAt(plan.leadAt(i) + 1), true));
            depth--;
            for (int c = 0; c < widthAt(depth); c++) {
                shelf.addColumn(columnAt(depth, c));
            }
        }

        private void checkTerm(int note, int i) {
            switch (note) {
                case Grammar.TERM_INT:
                    plan.setArg(i, intNear(i));
                    break;
                case Grammar.TERM_UNKNOWN:
                    keepNamed(i, shelf.unknownNamed(wordNear(i)));
                    break;
                case Grammar.TERM_COLUMN:
                    keepNamed(i, columnNamed(depth - 1, wordNear(i)));
                    break;
                case Grammar.KEEP_RELATION:
                    plan.setArg(i, tokens.kindAt(plan.nearAt(i)));
                    break;
                default:
                    break;
            }
        }

        private void keepNamed(int i, int number) {
            if (number < 0) {
                failNear(Plan.NAME, i);
            }
            plan.setArg(i, number);
        }

        private void checkQuery(int note, int i) {
            switch (note) {
                case Grammar.LOAD:
                    load(i);
                    break;
                case Grammar.PLUS:
                case Grammar.MINUS:
                    depth--;
                    if (!isSameWidth(depth - 1, depth)) {
                        failLead(Plan.KIND, i);
                    }
                    break;
                case Grammar.JOIN:
                    depth--;
                    join(i);
                    break;
                case Grammar.PICK_START:
                    picked = 0;
                    break;
                case Grammar.PICK:
                    pick(i);
                    break;
                case Grammar.PROJECT:
                    usePicks();
                    break;
                case Grammar.RENAME_NEW:
                    fresh = wordNear(i);
                    if (columnNamed(depth - 1, fresh) >= 0) {
                        failNear(Plan.TWICE, i);
                    }
                    break;
                case Grammar.RENAME_OLD:
                    keepNamed(i, columnNamed(depth - 1, wordNear(i)));
                    setColumn(depth - 1, plan.argAt(i), fresh);
                    break;
                case Grammar.GROUP_NAMED:
                    if (picked >= Shelf.MOST_COLUMNS) {
                        failLead(Plan.KIND, i);
                    }
                    break;
                case Grammar.FOLD:
                    plan.setArg(i, tokens.kindAt(plan.nearAt(i)));
                    break;
                case Grammar.FOLD_COLUMN:
                    keepNamed(i, columnNamed(depth - 1, wordNear(i)));
                    break;
                case Grammar.GROUP:
                    group(i);
                    break;
                default:
                    break;
            }
        }

        private void load(int i) {
            int told = shelf.tableNamed(wordNear(i));
            Rows rows = shelf.rowsOf(told);
            if (rows == null) {
                failNear(Plan.NAME, i);
                return;
            }
            plan.setArg(i, told);
            setWidth(depth, 0);
            for (int c = 0; c < rows.width; c++) {
                addColumn(depth, shelf.columnName(told, c));
            }
            depth++;
        }

        /** Keeps for each COLUMN of the right side, 3 bits each, which one of the left side it is. */
        private void join(int i) {
            int left = depth - 1;
            int right = depth;
            int both = widthAt(left);
            int map = 0;
            for (int c = 0; c < widthAt(right); c++) {
                int found = columnNamed(left, columnAt(right, c));
                map |= (found < 0 ? NEW_BEHIND : found) << 3 * c;
                both += found < 0 ? 1 : 0;
            }
            if (both > Shelf.MOST_COLUMNS) {
                failLead(Plan.KIND, i);
                return;
            }
            for (int c = 0; c < widthAt(right); c++) {
                if ((map >> 3 * c & 7) == NEW_BEHIND) {
                    addColumn(left, columnAt(right, c));
                }
            }
            plan.setArg(i, map);
        }

        private void pick(int i) {
            long name = wordNear(i);
            int found = columnNamed(depth - 1, name);
            if (found < 0) {
                failNear(Plan.NAME, i);
            } else if (isPicked(name)) {
                failNear(Plan.TWICE, i);
            } else if (picked < picks.length) {
                picks[picked] = name;
                picked++;
            }
            plan.setArg(i, found);
        }

        private boolean isPicked(long name) {
            for (int i = 0; i < picked && i < picks.length; i++) {
                if (picks[i] == name) {
                    return true;
                }
            }
            return false;
        }

        private void usePicks() {
            setWidth(depth - 1, 0);
            for (int i = 0; i < picked && i < picks.length; i++) {
                addColumn(depth - 1, picks[i]);
            }
        }

        private void group(int i) {
            if (isPicked(wordNear(i))) {
                failNear(Plan.TWICE, i);
                return;
            }
            usePicks();
            addColumn(depth - 1, wordNear(i));
        }

        private int widthAt(int level) {
            return level >= 0 && level < widths.length ? widths[level] : 0;
        }

        private void setWidth(int level, int width) {
            if (level >= 0 && level < widths.length) {
                widths[level] = width;
            }
        }

        private long columnAt(int level, int c) {
            int at = level * Shelf.MOST_COLUMNS + c;
            return level >= 0 && c >= 0 && c < Shelf.MOST_COLUMNS && at < columns.length ? columns[at] : 0;
        }

        private void setColumn(int level, int c, long name) {
            int at = level * Shelf.MOST_COLUMNS + c;
            if (level >= 0 && c >= 0 && c < Shelf.MOST_COLUMNS && at < columns.length) {
                columns[at] = name;
            }
        }

        private void addColumn(int level, long name) {
            if (level < 0 || level >= widths.length || widths[level] >= Shelf.MOST_COLUMNS) {
                return;
            }
            int at = level * Shelf.MOST_COLUMNS + widths[level];
            if (at < columns.length) {
                columns[at] = name;
                widths[level]++;
            }
        }

        private int columnNamed(int level, long name) {
            for (int c = 0; c < widthAt(level); c++) {
                if (columnAt(level, c) == name) {
                    return c;
                }
            }
            return NONE;
        }

        private boolean isSameWidth(int level, int other) {
            if (widthAt(level) != widthAt(other)) {
                return false;
            }
            for (int c = 0; c < widthAt(level); c++) {
                if (columnAt(level, c) != columnAt(other, c)) {
                    return false;
                }
            }
            return true;
        }
    }

    /** The UNKNOWNS, WORLDS, PARTS and TABLES of a text, and the COND that was asked of it. */
    private static final class Shelf {
        static final int MOST_UNKNOWNS = 8;
        static final int MOST_TABLES = 10;
        static final int MOST_COLUMNS = 6;
        static final int MOST_WORLDS = 1024;
        private static final int MOST_VALUES = 64;
        private static final int MOST_PARTS = 20;

        private final long[] names = new long[MOST_UNKNOWNS];
        private final int[] sizes = new int[MOST_UNKNOWNS];
        private final int[] values = new int[MOST_UNKNOWNS * MOST_VALUES];
        /* The value of each UNKNOWN in each WORLD. */
        private final int[] cells = new int[MOST_WORLDS * MOST_UNKNOWNS];
        /* A bit for each PART that does not hold in the WORLD. */
        private final int[] broken = new int[MOST_WORLDS];
        private final int[] held = new int[MOST_WORLDS];
        private final boolean[] asked = new boolean[MOST_WORLDS];
        private final Rows[] rows = new Rows[MOST_TABLES];
        private final long[] tableNames = new long[MOST_TABLES];
        private final long[] columnNames = new long[MOST_TABLES * MOST_COLUMNS];
        private final boolean[] answers = new boolean[MOST_TABLES];
        private int unknowns;
        private int tables;
        private int all;
        private int holding;
        private int parts;
        private int learned;
        private boolean wasAsked;

        Shelf() {
            empty();
            settle();
        }

        void empty() {
            unknowns = 0;
            tables = 0;
            all = 1;
            parts = 0;
            learned = 0;
            wasAsked = false;
        }

        int unknownNamed(long name) {
            for (int u = 0; u < unknowns && u < names.length; u++) {
                if (names[u] == name) {
                    return u;
                }
            }
            return NONE;
        }

        void startUnknown(long name) {
            if (unknowns < names.length && unknowns < sizes.length) {
                names[unknowns] = name;
                sizes[unknowns] = 0;
            }
        }

        /** One value more of the UNKNOWN that is being told; false if it has it already. */
        boolean list(int number) {
            int size = sizeOf(unknowns);
            int start = unknowns * MOST_VALUES;
            if (unknowns >= sizes.length || size >= MOST_VALUES) {
                return false;
            }
            for (int i = start; i < start + size && i < values.length; i++) {
                if (values[i] == number) {
                    return false;
                }
            }
            if (start + size < values.length) {
                values[start + size] = number;
                sizes[unknowns] = size + 1;
            }
            return true;
        }

        int firstListed() {
            int start = unknowns * MOST_VALUES;
            return start < values.length ? values[start] : 0;
        }

        /** False if there would be more WORLDS than there may be. */
        boolean endUnknown() {
            int more = all * sizeOf(unknowns);
            if (more > MOST_WORLDS || unknowns >= MOST_UNKNOWNS) {
                return false;
            }
            all = more;
            unknowns++;
            return true;
        }

        private int sizeOf(int u) {
            return u >= 0 && u < sizes.length ? sizes[u] : 0;
        }

        int tableNamed(long name) {
            for (int t = 0; t < tables && t < tableNames.length; t++) {
                if (tableNames[t] == name) {
                    return t;
                }
            }
            return NONE;
        }

        /** A TABLE more, as yet without COLUMNS: its number. */
        int addTable(long name, boolean answer) {
            int t = tables;
            if (t >= rows.length || t >= tableNames.length || t >= answers.length) {
                return NONE;
            }
            tableNames[t] = name;
            answers[t] = answer;
            if (rows[t] == null) {
                rows[t] = new Rows();
            }
            rows[t].width = 0;
            rows[t].height = 0;
            tables++;
            return t;
        }

        /** A COLUMN more of the latest TABLE; false if it has it already. */
        boolean addColumn(long name) {
            int t = tables - 1;
            Rows told = rowsOf(t);
            if (told == null || told.width >= MOST_COLUMNS) {
                return false;
            }
            for (int c = 0; c < told.width; c++) {
                if (columnName(t, c) == name) {
                    return false;
                }
            }
            int at = t * MOST_COLUMNS + told.width;
            if (at < columnNames.length) {
                columnNames[at] = name;
                told.width++;
            }
            return true;
        }

        long columnName(int t, int c) {
            int at = t * MOST_COLUMNS + c;
            return t >= 0 && t < MOST_TABLES && c >= 0 && c < MOST_COLUMNS && at < columnNames.length
                ? columnNames[at] : 0;
        }

        Rows rowsOf(int t) {
            return t >= 0 && t < tables && t < rows.length ? rows[t] : null;
        }

        boolean isAnswer(int t) {
            return t >= 0 && t < tables && t < answers.length && answers[t];
        }

        /** Works out the WORLDS of the UNKNOWNS told; as yet all hold. */
        void settle() {
            for (int w = 0; w < all && w < broken.length; w++) {
                broken[w] = 0;
                int rest = w;
                for (int u = unknowns - 1; u >= 0; u--) {
                    int size = sizeOf(u);
                    if (size > 0) {
                        setCell(w, u, u * MOST_VALUES + rest % size);
                        rest /= size;
                    }
                }
            }
            hold();
        }

        private void setCell(int w, int u, int from) {
            int at = w * MOST_UNKNOWNS + u;
            if (at >= 0 && at < cells.length && from >= 0 && from < values.length) {
                cells[at] = values[from];
            }
        }

        private void hold() {
            holding = 0;
            for (int w = 0; w < all && w < broken.length; w++) {
                if (broken[w] == 0 && holding < held.length) {
                    held[holding] = w;
                    holding++;
                }
            }
        }

        /** The k-th of the WORLDS that hold; NONE if there are not so many. */
        int heldWorld(int k) {
            return k >= 0 && k < holding && k < held.length ? held[k] : NONE;
        }

        int valueIn(int w, int u) {
            int at = w * MOST_UNKNOWNS + u;
            return w >= 0 && w < MOST_WORLDS && u >= 0 && u < MOST_UNKNOWNS && at < cells.length ? cells[at] : 0;
        }

        int brokenIn(int w) {
            return w >= 0 && w < broken.length ? broken[w] : 0;
        }

        boolean isAsked(int w) {
            return w >= 0 && w < asked.length && asked[w];
        }

        /** In how many of the WORLDS that hold the COND holds that the worker judged. */
        int heldWith(Worker worker) {
            int worlds = 0;
            for (int k = 0; k < holding; k++) {
                if (worker.judgedTrue(heldWorld(k))) {
                    worlds++;
                }
            }
            return worlds;
        }

        void addPart(Worker worker) {
            if (parts >= MOST_PARTS) {
                return;
            }
            for (int w = 0; w < all && w < broken.length; w++) {
                if (!worker.judgedTrue(w)) {
                    broken[w] |= 1 << parts;
                }
            }
            parts++;
            hold();
        }

        void dropPart() {
            if (parts <= 0) {
                return;
            }
            parts--;
            for (int w = 0; w < all && w < broken.length; w++) {
                broken[w] &= ~(1 << parts);
            }
            hold();
        }

        void keepAsked(Worker worker) {
            for (int w = 0; w < all && w < asked.length; w++) {
                asked[w] = worker.judgedTrue(w);
            }
            wasAsked = true;
        }
    }

    /** ROWS of a TABLE, or of a Q on the way: their TERMS, and in which WORLDS each is there. */
    private static final class Rows {
        static final int MOST = 30;
        private static final int WIDEST = Shelf.MOST_COLUMNS;

        private final int[] terms = new int[MOST * WIDEST];
        private final boolean[] open = new boolean[MOST * WIDEST];
        /* A bit for each ROW that is there in the WORLD. */
        private final int[] there = new int[Shelf.MOST_WORLDS];
        private int width;
        private int height;

        boolean isOpen(int row, int column) {
            int at = row * WIDEST + column;
            return row >= 0 && column >= 0 && column < WIDEST && at < open.length && open[at];
        }

        int termAt(int row, int column) {
            int at = row * WIDEST + column;
            return row >= 0 && row < MOST && column >= 0 && column < WIDEST && at < terms.length ? terms[at] : 0;
        }

        void setTerm(int row, int column, boolean unknown, int number) {
            int at = row * WIDEST + column;
            if (row >= 0 && row < MOST && column >= 0 && column < WIDEST && at < terms.length && at < open.length) {
                terms[at] = number;
                open[at] = unknown;
            }
        }

        /* This and what lines up rows look into the arrays themselves: so calls do not go too deep. */
        int cellIn(Shelf shelf, int row, int column, int world) {
            int at = row * WIDEST + column;
            if (row < 0 || row >= MOST || column < 0 || column >= WIDEST || at >= terms.length || at >= open.length) {
                return 0;
            }
            int number = terms[at];
            if (!open[at]) {
                return number;
            }
            int cell = world * Shelf.MOST_UNKNOWNS + number;
            return world >= 0 && world < Shelf.MOST_WORLDS && number >= 0 && number < Shelf.MOST_UNKNOWNS
                && cell < shelf.cells.length ? shelf.cells[cell] : 0;
        }

        boolean has(int row, int world) {
            return world >= 0 && world < there.length && (there[world] >> row & 1) != 0;
        }

        void put(int row, int world) {
            if (world >= 0 && world < there.length) {
                there[world] |= 1 << row;
            }
        }

        void drop(int row, int world) {
            if (world >= 0 && world < there.length) {
                there[world] &= ~(1 << row);
            }
        }

        void clear(int wide) {
            width = wide;
            height = 0;
            Arrays.fill(there, 0);
        }

        void copyFrom(Rows other) {
            width = other.width;
            height = 0;
            for (int row = 0; row < other.height; row++) {
                addFrom(other, row);
            }
            System.arraycopy(other.there, 0, there, 0, there.length);
        }

        /** A ROW more with another's TERMS, as yet nowhere there: its number. */
        int addFrom(Rows other, int row) {
            int added = height;
            for (int c = 0; c < other.width; c++) {
                setTerm(added, c, other.isOpen(row, c), other.termAt(row, c));
            }
            height++;
            return added;
        }

        /** Below, at or above 0: the row is ahead of the other one, like it, or behind it. */
        int against(Shelf shelf, int row, int world, Rows other, int otherRow, int otherWorld) {
            for (int c = 0; c < width; c++) {
                int mine = cellIn(shelf, row, c, world);
                int its = other.cellIn(shelf, otherRow, c, otherWorld);
                if (mine != its) {
                    return mine < its ? -1 : 1;
                }
            }
            return 0;
        }

        /** Puts a ROW for each row of the WORLD into the line, in their order: how many. */
        int lineUp(Shelf shelf, int world, int[] line) {
            int length = 0;
            for (int row = 0; row < height; row++) {
                if (!has(row, world) || length >= line.length) {
                    continue;
                }
                int at = length;
                int order = 1;
                while (at > 0) {
                    order = against(shelf, row, world, this, line[at - 1], world);
                    if (order >= 0) {
                        break;
                    }
                    at--;
                }
                if (at > 0 && order == 0) {
                    continue;
                }
                for (int i = length; i > at; i--) {
                    line[i] = line[i - 1];
                }
                line[at] = row;
                length++;
            }
            return length;
        }

        /** Whether some TERMS of the two ROWS that must be alike are values that are not. */
        boolean neverMeets(int row, Rows other, int otherRow, int map) {
            for (int c = 0; c < other.width; c++) {
                int mine = map >> 3 * c & 7;
                if (mine < width && !isOpen(row, mine) && !other.isOpen(otherRow, c)
                    && termAt(row, mine) != other.termAt(otherRow, c)) {
                    return true;
                }
            }
            return false;
        }

        /** Whether both are there and alike: the map tells 3 bits for each of the other's COLUMNS. */
        boolean meets(Shelf shelf, int row, Rows other, int otherRow, int map, int world) {
            if (!has(row, world) || !other.has(otherRow, world)) {
                return false;
            }
            for (int c = 0; c < other.width; c++) {
                int mine = map >> 3 * c & 7;
                if (mine < width
                    && cellIn(shelf, row, mine, world) != other.cellIn(shelf, otherRow, c, world)) {
                    return false;
                }
            }
            return true;
        }

        /** How many of these COLUMNS the map finds none for among so many. */
        int newColumns(int among, int map) {
            int added = 0;
            for (int c = 0; c < width; c++) {
                added += (map >> 3 * c & 7) >= among ? 1 : 0;
            }
            return added;
        }

        /** Changes the places of two ROWS, in the first so many WORLDS. */
        void change(int row, int other, int worlds) {
            for (int c = 0; c < width; c++) {
                int number = termAt(row, c);
                boolean unknown = isOpen(row, c);
                setTerm(row, c, isOpen(other, c), termAt(other, c));
                setTerm(other, c, unknown, number);
            }
            for (int w = 0; w < worlds && w < there.length; w++) {
                int differ = (there[w] >> row ^ there[w] >> other) & 1;
                there[w] ^= differ << row | differ << other;
            }
        }
    }

    /** Works out a plan without a fault in all WORLDS, and finds FULL and that none is left. */
    private static final class Worker {
        static final int DEEPEST = 20;
        private static final int VALUE = 0;
        private static final int UNKNOWN = 1;
        private static final int COLUMN = 2;
        /* Each COLUMN is the one at the same place, 3 bits each. */
        private static final int ONE_TO_ONE = 0 | 1 << 3 | 2 << 6 | 3 << 9 | 4 << 12 | 5 << 15;

        private final Tokens tokens;
        private final Plan plan;
        private final Grouper grouper = new Grouper();
        /* The Qs that are worked out and not used yet, the latest last. */
        private final Rows[] stack = new Rows[DEEPEST];
        private int depth;
        private Rows scratch = new Rows();
        /* For each WORLD a stack of bits, the latest lowest: what of a COND is judged and not used yet. */
        private final int[] truths = new int[Shelf.MOST_WORLDS];
        private Shelf shelf;
        private int leftSort;
        private int leftNumber;
        private int rightSort;
        private int rightNumber;
        private int relation;
        private int rowTable;
        private int rowTerms;

        Worker(Tokens tokens, Plan plan) {
            this.tokens = tokens;
            this.plan = plan;
        }

        /** Whether the COND judged latest holds in the WORLD. */
        boolean judgedTrue(int world) {
            return world >= 0 && world < truths.length && (truths[world] & 1) != 0;
        }

        void judge(Shelf told) {
            shelf = told;
            for (int i = 0; i < plan.length; i++) {
                workCond(plan.noteAt(i), plan.argAt(i));
            }
        }

        void work(Shelf told) {
            shelf = told;
            shelf.settle();
            depth = 0;
            for (int i = 0; i < plan.length && plan.fault == Plan.NO_FAULT; i++) {
                int note = plan.noteAt(i);
                if (note >= Grammar.FIRST_QUERY_NOTE) {
                    workQuery(note, i);
                } else if (note >= Grammar.TERM_INT) {
                    workCond(note, plan.argAt(i));
                } else {
                    workTold(note, i);
                }
            }
        }

        private void workTold(int note, int i) {
            switch (note) {
                case Grammar.NEW_ROW:
                    rowTable = plan.argAt(i);
                    rowTerms = 0;
                    startRow(shelf.rowsOf(rowTable));
                    break;
                case Grammar.ROW_TERM:
                    addTerm(shelf.rowsOf(rowTable));
                    break;
                case Grammar.ROW_IF:
                    limitRow(shelf.rowsOf(rowTable));
                    break;
                case Grammar.END_PART:
                    shelf.addPart(this);
                    if (shelf.holding == 0) {
                        plan.fail(Plan.NONE_LEFT, tokens.startAt(plan.leadAt(i)));
                    }
                    break;
                case Grammar.END_ANSWER:
                    depth--;
                    endAnswer(shelf.rowsOf(plan.argAt(i)), rowsAt(depth));
                    break;
                default:
                    break;
            }
        }

        private void startRow(Rows rows) {
            if (rows == null) {
                return;
            }
            rows.height++;
            for (int w = 0; w < shelf.all; w++) {
                rows.put(rows.height - 1, w);
            }
        }

        private void addTerm(Rows rows) {
            if (rows != null) {
                rows.setTerm(rows.height - 1, rowTerms, rightSort == UNKNOWN, rightNumber);
                rowTerms++;
            }
        }

        private void limitRow(Rows rows) {
            if (rows == null) {
                return;
            }
            for (int w = 0; w < shelf.all; w++) {
                if (!judgedTrue(w)) {
                    rows.drop(rows.height - 1, w);
                }
            }
        }

        private void endAnswer(Rows rows, Rows worked) {
            if (rows != null) {
                rows.copyFrom(worked);
            }
        }

        private void workCond(int note, int arg) {
            switch (note) {
                case Grammar.TERM_INT:
                    setSide(VALUE, arg);
                    break;
                case Grammar.TERM_UNKNOWN:
                    setSide(UNKNOWN, arg);
                    break;
                case Grammar.TERM_COLUMN:
                    setSide(COLUMN, arg);
                    break;
                case Grammar.KEEP_RELATION:
                    relation = arg;
                    break;
                case Grammar.COMPARE:
                case Grammar.NOT:
                case Grammar.AND:
                case Grammar.OR:
                    for (int w = 0; w < shelf.all && w < truths.length; w++) {
                        truths[w] = judged(note, truths[w], w);
                    }
                    break;
                default:
                    break;
            }
        }

        private void setSide(int sort, int number) {
            leftSort = rightSort;
            leftNumber = rightNumber;
            rightSort = sort;
            rightNumber = number;
        }

        private int judged(int note, int bits, int world) {
            switch (note) {
                case Grammar.NOT:
                    return bits ^ 1;
                case Grammar.AND:
                    return bits >> 1 & (bits | ~1);
                case Grammar.OR:
                    return bits >> 1 | bits & 1;
                default:
                    return bits << 1 | (compares(scratch, 0, world) ? 1 : 0);
            }
        }

        /** Whether the two sides told latest compare so, of COLUMNS in this row. */
        private boolean compares(Rows rows, int row, int world) {
            int left = sideIn(leftSort, leftNumber, rows, row, world);
            int right = sideIn(rightSort, rightNumber, rows, row, world);
            switch (relation) {
                case '=':
                    return left == right;
                case Grammar.UNLIKE:
                    return left != right;
                case '<':
                    return left < right;
                default:
                    return left <= right;
            }
        }

        private int sideIn(int sort, int number, Rows rows, int row, int world) {
            return sort == VALUE ? number
                : sort == UNKNOWN ? shelf.valueIn(world, number) : rows.cellIn(shelf, row, number, world);
        }

        private void workQuery(int note, int i) {
            switch (note) {
                case Grammar.LOAD:
                    load(shelf.rowsOf(plan.argAt(i)));
                    break;
                case Grammar.PLUS:
                    depth--;
                    plus(rowsAt(depth - 1), rowsAt(depth), i);
                    break;
                case Grammar.MINUS:
                    depth--;
                    minus(rowsAt(depth - 1), rowsAt(depth));
                    break;
                case Grammar.JOIN:
                    depth--;
                    join(rowsAt(depth - 1), rowsAt(depth), i);
                    break;
                case Grammar.TEST:
                    test(rowsAt(depth - 1));
                    break;
                case Grammar.PICK_START:
                    grouper.picked = 0;
                    break;
                case Grammar.PICK:
                    grouper.pick(plan.argAt(i));
                    break;
                case Grammar.PROJECT:
                    grouper.project(rowsAt(depth - 1));
                    break;
                case Grammar.FOLD:
                    grouper.fold = plan.argAt(i);
                    break;
                case Grammar.FOLD_COLUMN:
                    grouper.folded = plan.argAt(i);
                    break;
                case Grammar.GROUP:
                    if (!grouper.group(shelf, rowsAt(depth - 1), scratch)) {
                        full(i);
                    }
                    useScratch();
                    break;
                default:
                    break;
            }
        }

        private void full(int i) {
            plan.fail(Plan.FULL, tokens.startAt(plan.leadAt(i)));
        }

        private Rows rowsAt(int level) {
            if (level < 0 || level >= stack.length) {
                return scratch;
            }
            if (stack[level] == null) {
                stack[level] = new Rows();
            }
            return stack[level];
        }

        /** What was worked out into the scratch is the latest Q; its old ROWS are scratch. */
        private void useScratch() {
            int level = depth - 1;
            if (level >= 0 && level < stack.length) {
                Rows old = rowsAt(level);
                stack[level] = scratch;
                scratch = old;
            }
        }

        private void load(Rows told) {
            if (told != null) {
                rowsAt(depth).copyFrom(told);
                depth++;
            }
        }

        private void test(Rows rows) {
            for (int row = 0; row < rows.height; row++) {
                for (int w = 0; w < shelf.all; w++) {
                    if (rows.has(row, w) && !compares(rows, row, w)) {
                        rows.drop(row, w);
                    }
                }
            }
        }

        private void plus(Rows left, Rows right, int i) {
            if (left.height + right.height > Rows.MOST) {
                full(i);
                return;
            }
            for (int row = 0; row < right.height; row++) {
                int added = left.addFrom(right, row);
                for (int w = 0; w < shelf.all; w++) {
                    if (right.has(row, w)) {
                        left.put(added, w);
                    } else {
                        left.drop(added, w);
                    }
                }
            }
        }

        private void minus(Rows left, Rows right) {
            for (int row = 0; row < left.height; row++) {
                for (int other = 0; other < right.height; other++) {
                    if (left.neverMeets(row, right, other, ONE_TO_ONE)) {
                        continue;
                    }
                    for (int w = 0; w < shelf.all; w++) {
                        if (left.meets(shelf, row, right, other, ONE_TO_ONE, w)) {
                            left.drop(row, w);
                        }
                    }
                }
            }
        }

        private void join(Rows left, Rows right, int i) {
            if (left.height * right.height > Rows.MOST) {
                full(i);
                return;
            }
            int map = plan.argAt(i);
            scratch.clear(left.width);
            for (int row = 0; row < left.height; row++) {
                for (int other = 0; other < right.height; other++) {
                    joinRow(left, row, right, other, map);
                }
            }
            scratch.width = left.width + right.newColumns(left.width, map);
            useScratch();
        }

        private void joinRow(Rows left, int row, Rows right, int other, int map) {
            int added = scratch.addFrom(left, row);
            int behind = left.width;
            for (int c = 0; c < right.width; c++) {
                if ((map >> 3 * c & 7) >= left.width) {
                    scratch.setTerm(added, behind, right.isOpen(other, c), right.termAt(other, c));
                    behind++;
                }
            }
            if (left.neverMeets(row, right, other, map)) {
                return;
            }
            for (int w = 0; w < shelf.all; w++) {
                if (left.meets(shelf, row, right, other, map, w)) {
                    scratch.put(added, w);
                }
            }
        }
    }

    /** Works out : ( ) and #, that is all that is told of COLUMNS in brackets. */
    private static final class Grouper {
        private final int[] picks = new int[Shelf.MOST_COLUMNS];
        private int picked;
        private int fold;
        private int folded;
        private final int[] line = new int[Rows.MOST];
        private final int[] tuple = new int[Shelf.MOST_COLUMNS];
        private final boolean[] sorts = new boolean[Shelf.MOST_COLUMNS];

        void pick(int column) {
            if (picked < picks.length) {
                picks[picked] = column;
                picked++;
            }
        }

        void project(Rows rows) {
            for (int row = 0; row < rows.height; row++) {
                for (int i = 0; i < picked && i < picks.length; i++) {
                    tuple[i] = rows.termAt(row, picks[i]);
                    sorts[i] = rows.isOpen(row, picks[i]);
                }
                for (int i = 0; i < picked && i < picks.length; i++) {
                    rows.setTerm(row, i, sorts[i], tuple[i]);
                }
            }
            rows.width = picked;
        }

        /** All groups of all WORLDS as ROWS in their order; false if they would be too many. */
        boolean group(Shelf shelf, Rows from, Rows to) {
            to.clear(Math.min(picked + 1, Shelf.MOST_COLUMNS));
            for (int w = 0; w < shelf.all; w++) {
                if (!groupIn(shelf, from, to, w)) {
                    return false;
                }
            }
            sort(shelf, to);
            return true;
        }

        private boolean groupIn(Shelf shelf, Rows from, Rows to, int world) {
            int length = from.lineUp(shelf, world, line);
            for (int i = 0; i < length && i < line.length; i++) {
                if (!isFirst(shelf, from, i, world)) {
                    continue;
                }
                int width = Math.min(picked, picks.length - 1);
                for (int c = 0; c < width; c++) {
                    tuple[c] = from.cellIn(shelf, line[i], picks[c], world);
                }
                tuple[width] = tally(shelf, from, i, length, world);
                int row = find(to);
                if (row < 0) {
                    return false;
                }
                to.put(row, world);
            }
            return true;
        }

        private boolean isFirst(Shelf shelf, Rows from, int i, int world) {
            for (int j = 0; j < i && j < line.length; j++) {
                if (isAlike(shelf, from, j, i, world)) {
                    return false;
                }
            }
            return true;
        }

        private boolean isAlike(Shelf shelf, Rows from, int i, int j, int world) {
            if (i < 0 || i >= line.length || j < 0 || j >= line.length) {
                return false;
            }
            for (int c = 0; c < picked && c < picks.length; c++) {
                if (from.cellIn(shelf, line[i], picks[c], world) != from.cellIn(shelf, line[j], picks[c], world)) {
                    return false;
                }
            }
            return true;
        }

        /** What comes of the group whose first row is this. */
        private int tally(Shelf shelf, Rows from, int first, int length, int world) {
            int so = 0;
            for (int i = first; i < length && i < line.length; i++) {
                if (isAlike(shelf, from, first, i, world)) {
                    int number = from.cellIn(shelf, line[i], folded, world);
                    so = i == first ? start(number) : more(so, number);
                }
            }
            return so;
        }

        private int start(int number) {
            return fold == Grammar.COUNT_WORD ? 1 : number;
        }

        private int more(int so, int number) {
            switch (fold) {
                case Grammar.COUNT_WORD:
                    return so + 1;
                case Grammar.LEAST_WORD:
                    return Math.min(so, number);
                case Grammar.MOST_WORD:
                    return Math.max(so, number);
                default:
                    return so + number;
            }
        }

        /** The ROW with the tuple's values, a new one if there is none; NONE if that would be too many. */
        private int find(Rows to) {
            for (int row = 0; row < to.height; row++) {
                if (isTuple(to, row)) {
                    return row;
                }
            }
            if (to.height >= Rows.MOST) {
                return NONE;
            }
            for (int c = 0; c < to.width && c < tuple.length; c++) {
                to.setTerm(to.height, c, false, tuple[c]);
            }
            to.height++;
            return to.height - 1;
        }

        private boolean isTuple(Rows to, int row) {
            for (int c = 0; c < to.width && c < tuple.length; c++) {
                if (to.termAt(row, c) != tuple[c]) {
                    return false;
                }
            }
            return true;
        }

        private static void sort(Shelf shelf, Rows to) {
            for (int row = 0; row < to.height; row++) {
                int first = row;
                for (int other = row + 1; other < to.height; other++) {
                    if (to.against(shelf, other, 0, to, first, 0) < 0) {
                        first = other;
                    }
                }
                if (first != row) {
                    to.change(row, first, shelf.all);
                }
            }
        }
    }

    /** The MAYBE rows of one TABLE, worked out once and kept until the WORLDS that hold are others. */
    private static final class Listing {
        private static final int FIRST_ROOM = 64;
        private static final int ONCE = 1 << 15;

        private int told = NONE;
        private int fewest;
        private int most;
        private int length;
        private int sures;
        /* A row each: one WORLD that has it, 10 bits, the ROW that is it there, 5 bits, how many have it. */
        private int[] refs = new int[FIRST_ROOM];
        private int[] merged = new int[FIRST_ROOM];
        private final int[] ends = new int[Shelf.MOST_WORLDS];
        private int runs;
        private final int[] sureAt = new int[Rows.MOST];
        private final int[] line = new int[Rows.MOST];

        static int worldOf(int ref) {
            return ref & 1023;
        }

        static int rowOf(int ref) {
            return ref >> 10 & 31;
        }

        static int worldsOf(int ref) {
            return ref >> 15;
        }

        void forget() {
            told = NONE;
        }

        /** The i-th MAYBE row; NONE if there are not so many. */
        int ref(int i) {
            return i >= 0 && i < length && i < refs.length ? refs[i] : NONE;
        }

        int sureRef(int i) {
            return i >= 0 && i < sures && i < sureAt.length ? ref(sureAt[i]) : NONE;
        }

        void gather(Shelf shelf, int t) {
            Rows rows = shelf.rowsOf(t);
            if (t == told || rows == null) {
                return;
            }
            told = t;
            collect(shelf, rows);
            for (int round = 0; round < Shelf.MOST_WORLDS && runs > 1; round++) {
                mergeRuns(shelf, rows);
            }
            findSure(shelf.holding);
        }

        /** A run of refs for each WORLD that holds. */
        private void collect(Shelf shelf, Rows rows) {
            length = 0;
            runs = 0;
            fewest = Rows.MOST;
            most = 0;
            for (int k = 0; k < shelf.holding; k++) {
                int world = shelf.heldWorld(k);
                int added = rows.lineUp(shelf, world, line);
                fewest = Math.min(fewest, added);
                most = Math.max(most, added);
                makeRoom(length + added);
                for (int i = 0; i < added && i < line.length; i++) {
                    put(refs, length, ONCE | line[i] << 10 | world);
                    length++;
                }
                if (runs < ends.length) {
                    ends[runs] = length;
                    runs++;
                }
            }
        }

        private void makeRoom(int least) {
            int room = refs.length;
            for (int i = 0; i < 16 && room < least; i++) {
                room *= 2;
            }
            if (room > refs.length) {
                refs = Arrays.copyOf(refs, room);
                merged = new int[room];
            }
        }

        private static void put(int[] into, int at, int ref) {
            if (at >= 0 && at < into.length) {
                into[at] = ref;
            }
        }

        /** Merges each second run into the one ahead of it. */
        private void mergeRuns(Shelf shelf, Rows rows) {
            int start = 0;
            int written = 0;
            int left = 0;
            for (int run = 0; run < runs && run < ends.length; run += 2) {
                int middle = ends[run];
                int end = run + 1 < runs && run + 1 < ends.length ? ends[run + 1] : middle;
                written = mergeTwo(shelf, rows, start, middle, end, written);
                start = end;
                ends[left] = written;
                left++;
            }
            runs = left;
            length = written;
            int[] old = refs;
            refs = merged;
            merged = old;
        }

        private int mergeTwo(Shelf shelf, Rows rows, int start, int middle, int end, int from) {
            int first = start;
            int second = middle;
            int written = from;
            while (first < middle || second < end) {
                int one = ref(first);
                int two = ref(second);
                int order = first >= middle ? 1 : second >= end ? -1
                    : rows.against(shelf, rowOf(one), worldOf(one), rows, rowOf(two), worldOf(two));
                int both = order < 0 ? one : order > 0 ? two : one + worldsOf(two) * ONCE;
                put(merged, written, both);
                written++;
                first += order <= 0 ? 1 : 0;
                second += order >= 0 ? 1 : 0;
            }
            return written;
        }

        private void findSure(int holding) {
            sures = 0;
            for (int i = 0; i < length; i++) {
                if (worldsOf(ref(i)) == holding && sures < sureAt.length) {
                    sureAt[sures] = i;
                    sures++;
                }
            }
        }
    }

    /** WHY what was asked cannot be, worked out once and kept until something else is asked or learned. */
    private static final class Reason {
        private static final int MOST = 20;

        private boolean known;
        private int chosen;
        /* The PARTS that do not hold, of each WORLD with what was asked; none has all of another one's. */
        private final int[] masks = new int[Shelf.MOST_WORLDS];
        private int length;

        void forget() {
            known = false;
        }

        /** The i-th PART of the reason; NONE if there are not so many. */
        int part(Shelf shelf, int i) {
            if (!known) {
                known = true;
                find(shelf);
            }
            int before = 0;
            for (int p = 0; p < MOST; p++) {
                if ((chosen >> p & 1) != 0) {
                    if (before == i) {
                        return p;
                    }
                    before++;
                }
            }
            return NONE;
        }

        private void find(Shelf shelf) {
            chosen = 0;
            length = 0;
            if (!shelf.wasAsked) {
                return;
            }
            for (int w = 0; w < shelf.all; w++) {
                if (shelf.isAsked(w)) {
                    if (shelf.brokenIn(w) == 0) {
                        return;
                    }
                    keep(shelf.brokenIn(w));
                }
            }
            int all = (1 << shelf.parts) - 1;
            int least = 0;
            while (least < MOST && !hits(masks, length, 0, all, least, 0)) {
                least++;
            }
            choose(all, least);
        }

        private void keep(int mask) {
            int left = 0;
            for (int i = 0; i < length && i < masks.length; i++) {
                if ((masks[i] & mask) == masks[i]) {
                    return;
                }
            }
            for (int i = 0; i < length && i < masks.length; i++) {
                if ((masks[i] & mask) != mask) {
                    masks[left] = masks[i];
                    left++;
                }
            }
            if (left < masks.length) {
                masks[left] = mask;
                length = left + 1;
            }
        }

        /** Of the sets of so many PARTS that hit all masks the one with the least numbers. */
        private void choose(int all, int least) {
            int open = least;
            for (int p = 0; p < MOST && open > 0; p++) {
                int bit = 1 << p;
                int behind = all & ~(bit | bit - 1);
                if ((all & bit) != 0 && hits(masks, length, chosen | bit, behind, open - 1, 0)) {
                    chosen |= bit;
                    open--;
                }
            }
        }

        /** Whether at most so many PARTS more, of these, hit all masks that the chosen ones do not. */
        private static boolean hits(int[] masks, int length, int chosen, int allowed, int more, int depth) {
            int apart = 0;
            int used = 0;
            int least = -1;
            for (int i = 0; i < length && i < masks.length; i++) {
                int mask = masks[i] & allowed;
                if ((masks[i] & chosen) == 0) {
                    if ((mask & used) == 0) {
                        used |= mask;
                        apart++;
                    }
                    least = least == -1 || Integer.bitCount(mask) < Integer.bitCount(least) ? mask : least;
                }
            }
            if (least == -1 || apart > more || depth > MOST) {
                return least == -1;
            }
            int left = allowed;
            for (int p = 0; p < MOST; p++) {
                int bit = 1 << p;
                if ((least & bit) != 0) {
                    left &= ~bit;
                    if (hits(masks, length, chosen | bit, left, more - 1, depth + 1)) {
                        return true;
                    }
                }
            }
            return false;
        }
    }
}
