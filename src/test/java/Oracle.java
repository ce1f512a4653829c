import java.util.ArrayList;
import java.util.Arrays;
import java.util.HashMap;
import java.util.LinkedHashSet;
import java.util.List;
import java.util.Map;
import java.util.Set;
import java.util.TreeMap;

/** The document over again, with trees and collections and without a care for speed: what a shelf should answer. */
final class Oracle {
    static final int NO = -100000;
    private static final List<String> WORDS = List.of("unknown", "table", "row", "if", "always", "answer", "count",
        "least", "most", "sum");
    private static final List<String> SIGNS = List.of("..", "!=", "<=", "(", ")", "[", "]", "{", "}", ",", ";", ":",
        "?", "#", "+", "-", "*", "=", "<", "&", "|", "!");

    static final class Fault extends RuntimeException {
        final int number;
        final int place;

        Fault(int number, int place) {
            super(null, null, false, false);
            this.number = number;
            this.place = place;
        }
    }

    record Token(String kind, String text, int place) { }

    /** A tree of what stands in the text; the place is that of the token that counts for its faults. */
    static final class Node {
        final String kind;
        final int place;
        String name = "";
        int number;
        final List<Node> parts = new ArrayList<>();

        Node(String kind, int place) {
            this.kind = kind;
            this.place = place;
        }

        Node(Node name) {
            this(name.kind, name.place);
        }
    }

    /** A TERM: the number of an UNKNOWN or a value. */
    record Term(boolean unknown, int number) { }

    static final class Row {
        final List<Term> terms = new ArrayList<>();
        boolean[] there;
    }

    static final class Table {
        String name;
        boolean answer;
        List<String> columns = new ArrayList<>();
        List<Row> rows = new ArrayList<>();
    }

    /** All that a text makes. */
    static final class State {
        final List<String> unknowns = new ArrayList<>();
        final List<List<Integer>> values = new ArrayList<>();
        final List<Table> tables = new ArrayList<>();
        final List<boolean[]> parts = new ArrayList<>();
        List<int[]> worlds = new ArrayList<>(List.of(new int[0]));
        int learned;
        boolean[] asked;
    }

    private State state = new State();
    private String tape = "";
    private int place = -1;

    // ---- tokens

    private static List<Token> scan(String text) {
        List<Token> tokens = new ArrayList<>();
        int at = 0;
        while (at < text.length()) {
            char sign = text.charAt(at);
            if (" \t\r\n".indexOf(sign) >= 0) {
                at++;
                continue;
            }
            String token = longest(text, at);
            boolean name = sign >= 'a' && sign <= 'z';
            boolean number = sign >= '0' && sign <= '9';
            if (token.isEmpty() || name && token.length() > 8 || number && token.length() > 4) {
                tokens.add(new Token("bad", token, at));
                break;
            }
            String kind = number ? "number" : name && !WORDS.contains(token) ? "name" : token;
            tokens.add(new Token(kind, token, at));
            at += token.length();
        }
        tokens.add(new Token("end", "", text.length()));
        return tokens;
    }

    private static String longest(String text, int at) {
        String rest = text.substring(at);
        java.util.regex.Matcher matcher = java.util.regex.Pattern.compile("[a-z][a-z0-9]*|[0-9]+").matcher(rest);
        if (matcher.lookingAt()) {
            return matcher.group();
        }
        for (String sign : SIGNS) {
            if (rest.startsWith(sign)) {
                return sign;
            }
        }
        return "";
    }

    // ---- the grammar: SYNTAX and ROOM, as they come from the left

    private static final class Reader {
        private final List<Token> tokens;
        private int at = 0;
        private int unknowns = 0;
        private int tables = 0;
        private int always = 0;
        private int operators = 0;
        private final Map<String, Integer> rows = new HashMap<>();

        Reader(String text) {
            tokens = scan(text);
        }

        private Token peek() {
            return tokens.get(at);
        }

        private boolean is(String kind) {
            return peek().kind().equals(kind);
        }

        private Token take(String kind) {
            Token token = peek();
            if (!is(kind)) {
                throw new Fault(1, token.place());
            }
            room(at < 1000 || kind.equals("end"), token);
            at++;
            return token;
        }

        private boolean took(String kind) {
            if (is(kind)) {
                take(kind);
                return true;
            }
            return false;
        }

        private void room(boolean enough, Token token) {
            if (!enough) {
                throw new Fault(2, token.place());
            }
        }

        private Node name(String kind) {
            Token token = take("name");
            Node node = new Node(kind, token.place());
            node.name = token.text();
            return node;
        }

        List<Node> text() {
            List<Node> tells = new ArrayList<>();
            while (!is("end")) {
                tells.add(tell());
            }
            return tells;
        }

        private Node tell() {
            if (is("unknown")) {
                return unknown();
            }
            if (is("table")) {
                return table();
            }
            if (is("row")) {
                return row();
            }
            if (is("always")) {
                Token word = take("always");
                always++;
                room(always <= 12, word);
                Node node = new Node("always", word.place());
                node.parts.add(cond(0));
                take(";");
                return node;
            }
            take("answer");
            Token name = peek();
            Node node = name("answer");
            newTable(name);
            take("=");
            node.parts.add(query(0));
            take(";");
            return node;
        }

        private void newTable(Token name) {
            tables++;
            room(tables <= 10, name);
            rows.putIfAbsent(name.text(), 0);
        }

        private Node unknown() {
            take("unknown");
            Token name = peek();
            Node node = name("unknown");
            unknowns++;
            room(unknowns <= 8, name);
            take(":");
            node.parts.add(listed(1));
            if (took("..")) {
                node.number = 1;
                node.parts.add(listed(1));
            } else {
                while (took(",")) {
                    node.parts.add(listed(node.parts.size() + 1));
                }
            }
            node.parts.add(new Node("semicolon", peek().place()));
            take(";");
            return node;
        }

        /** An INT; the 17th of a list has no room, from its first token on. */
        private Node listed(int which) {
            Token first = peek();
            if (is("-") || is("number")) {
                room(at < 1000, first);
                room(which <= 16, first);
            }
            return number();
        }

        private Node number() {
            Token first = peek();
            boolean below = took("-");
            Token digits = take("number");
            Node node = new Node("int", first.place());
            node.number = Integer.parseInt(digits.text()) * (below ? -1 : 1);
            return node;
        }

        private Node table() {
            take("table");
            Token name = peek();
            Node node = name("table");
            newTable(name);
            take("(");
            do {
                Token column = peek();
                node.parts.add(name("column"));
                room(node.parts.size() <= 4, column);
            } while (took(","));
            take(")");
            take(";");
            return node;
        }

        private Node row() {
            take("row");
            Token name = peek();
            Node node = name("row");
            if (rows.containsKey(name.text())) {
                rows.merge(name.text(), 1, Integer::sum);
                room(rows.get(name.text()) <= 30, name);
            }
            take("(");
            Node terms = new Node("terms", name.place());
            do {
                terms.parts.add(term());
            } while (took(","));
            node.parts.add(terms);
            take(")");
            if (took("if")) {
                node.parts.add(cond(0));
            }
            take(";");
            return node;
        }

        private Node term() {
            if (took("?")) {
                return name("unknownterm");
            }
            return number();
        }

        Node cond(int open) {
            Node node = new Node("or", peek().place());
            do {
                Node and = new Node("and", peek().place());
                do {
                    and.parts.add(literal(open));
                } while (took("&"));
                node.parts.add(and);
            } while (took("|"));
            return node;
        }

        private Node literal(int open) {
            Token first = peek();
            if (took("!")) {
                room(open < 8, first);
                Node node = new Node("not", first.place());
                node.parts.add(literal(open + 1));
                return node;
            }
            if (took("(")) {
                room(open < 8, first);
                Node node = cond(open + 1);
                take(")");
                return node;
            }
            return compared(false);
        }

        private Node compared(boolean columns) {
            Node node = new Node("compare", peek().place());
            node.parts.add(side(columns));
            for (String relation : List.of("=", "!=", "<", "<=")) {
                if (is(relation)) {
                    node.name = relation;
                }
            }
            take(node.name.isEmpty() ? "=" : node.name);
            node.parts.add(side(columns));
            return node;
        }

        private Node side(boolean columns) {
            return columns && is("name") ? name("columnterm") : term();
        }

        private Node query(int open) {
            Node left = joined(open);
            while (is("+") || is("-")) {
                Token sign = peek();
                Node node = new Node(sign.kind(), sign.place());
                operator(sign);
                node.parts.add(left);
                node.parts.add(joined(open));
                left = node;
            }
            return left;
        }

        private void operator(Token sign) {
            take(sign.kind());
            operators++;
            room(operators <= 40, sign);
        }

        private Node joined(int open) {
            Node left = source(open);
            while (is("*")) {
                Token sign = peek();
                Node node = new Node("*", sign.place());
                operator(sign);
                node.parts.add(left);
                node.parts.add(source(open));
                left = node;
            }
            return left;
        }

        private Node source(int open) {
            Token first = peek();
            Node node;
            if (took("(")) {
                room(open < 8, first);
                node = query(open + 1);
                take(")");
            } else {
                node = name("load");
            }
            while (is("[") || is(":") || is("{") || is("#")) {
                node = step(node);
            }
            return node;
        }

        private Node step(Node of) {
            Token sign = peek();
            Node node = new Node(sign.kind(), sign.place());
            node.parts.add(of);
            if (took("[")) {
                do {
                    node.parts.add(compared(true));
                } while (took(","));
                take("]");
            } else if (took(":")) {
                take("(");
                do {
                    node.parts.add(name("column"));
                } while (took(","));
                take(")");
            } else if (took("{")) {
                node.parts.add(name("column"));
                take("=");
                node.parts.add(name("column"));
                take("}");
            } else {
                operator(sign);
                group(node);
            }
            return node;
        }

        private void group(Node node) {
            take("(");
            Node picks = new Node("picks", node.place);
            if (is("name")) {
                do {
                    picks.parts.add(name("column"));
                } while (took(","));
            }
            take(")");
            node.parts.add(picks);
            if (took("count")) {
                node.name = "count";
            } else {
                node.name = is("least") ? "least" : is("most") ? "most" : "sum";
                take(node.name);
                node.parts.add(name("column"));
            }
            node.parts.add(name("column"));
        }

        void end() {
            take("end");
        }
    }

    // ---- TWICE, NAME, KIND: all of them, of which the first counts

    private static final class Names {
        private final State state;
        private Fault first = null;

        Names(State state) {
            this.state = state;
        }

        void fault(int number, int place) {
            if (first == null || place < first.place || place == first.place && number < first.number) {
                first = new Fault(number, place);
            }
        }

        Table named(String name) {
            for (Table table : state.tables) {
                if (table.name.equals(name)) {
                    return table;
                }
            }
            return null;
        }

        void tell(Node tell) {
            switch (tell.kind) {
                case "unknown" -> unknown(tell);
                case "table" -> {
                    List<String> columns = new ArrayList<>();
                    for (Node column : tell.parts) {
                        if (columns.contains(column.name)) {
                            fault(3, column.place);
                        }
                        columns.add(column.name);
                    }
                    add(tell, columns, false);
                }
                case "row" -> row(tell);
                case "always" -> cond(tell.parts.get(0));
                default -> {
                    List<String> columns = query(tell.parts.get(0));
                    add(tell, columns == null ? new ArrayList<>() : columns, true);
                }
            }
        }

        private void add(Node tell, List<String> columns, boolean answer) {
            if (named(tell.name) != null) {
                fault(3, tell.place);
            }
            Table table = new Table();
            table.name = tell.name;
            table.columns = columns;
            table.answer = answer;
            state.tables.add(table);
        }

        private void unknown(Node tell) {
            if (state.unknowns.contains(tell.name)) {
                fault(3, tell.place);
            }
            Set<Integer> values = new LinkedHashSet<>();
            if (tell.number == 1) {
                int from = tell.parts.get(0).number;
                int to = tell.parts.get(1).number;
                if (to < from || to > from + 63) {
                    fault(5, tell.parts.get(1).place);
                }
                for (int value = from; value <= to && value <= from + 63; value++) {
                    values.add(value);
                }
            } else {
                for (Node part : tell.parts) {
                    if (part.kind.equals("int") && !values.add(part.number)) {
                        fault(5, part.place);
                    }
                }
            }
            List<int[]> worlds = new ArrayList<>();
            if (state.worlds.size() * values.size() > 1024) {
                fault(5, tell.parts.get(tell.parts.size() - 1).place);
                values = Set.of(0);
            }
            for (int[] world : state.worlds) {
                for (int value : values) {
                    int[] more = Arrays.copyOf(world, world.length + 1);
                    more[world.length] = value;
                    worlds.add(more);
                }
            }
            state.worlds = worlds;
            state.unknowns.add(tell.name);
            state.values.add(new ArrayList<>(values));
        }

        private void row(Node tell) {
            Table table = named(tell.name);
            if (table == null) {
                fault(4, tell.place);
            } else if (table.answer || table.columns.size() != tell.parts.get(0).parts.size()) {
                fault(5, tell.place);
            }
            for (Node part : tell.parts) {
                cond(part);
            }
        }

        /** Looks for the UNKNOWNS anywhere in the tree. */
        void cond(Node node) {
            if (node.kind.equals("unknownterm") && !state.unknowns.contains(node.name)) {
                fault(4, node.place);
            }
            for (Node part : node.parts) {
                cond(part);
            }
        }

        /** The COLUMNS of a Q; null if it has a fault. */
        private List<String> query(Node node) {
            Fault ahead = first;
            first = null;
            List<String> columns = columns(node);
            boolean good = first == null;
            Fault own = first;
            first = ahead;
            if (own != null) {
                fault(own.number, own.place);
            }
            return good ? columns : null;
        }

        private List<String> columns(Node node) {
            if (node.kind.equals("load")) {
                Table table = named(node.name);
                if (table == null) {
                    fault(4, node.place);
                    return null;
                }
                return table.columns;
            }
            if ("+-*".contains(node.kind)) {
                List<String> left = query(node.parts.get(0));
                List<String> right = query(node.parts.get(1));
                return left == null || right == null ? null : signed(node, left, right);
            }
            List<String> of = query(node.parts.get(0));
            return stepped(node, of);
        }

        private List<String> signed(Node node, List<String> left, List<String> right) {
            if (!node.kind.equals("*")) {
                if (!left.equals(right)) {
                    fault(5, node.place);
                }
                return left;
            }
            Set<String> both = new LinkedHashSet<>(left);
            both.addAll(right);
            if (both.size() > 6) {
                fault(5, node.place);
            }
            return new ArrayList<>(both);
        }

        private void look(List<String> of, Node column) {
            if (of != null && !of.contains(column.name)) {
                fault(4, column.place);
            }
        }

        private List<String> stepped(Node node, List<String> of) {
            switch (node.kind) {
                case "[" -> {
                    for (Node test : node.parts.subList(1, node.parts.size())) {
                        for (Node side : test.parts) {
                            if (side.kind.equals("columnterm")) {
                                look(of, side);
                            } else {
                                cond(side);
                            }
                        }
                    }
                    return of;
                }
                case ":" -> {
                    return picked(of, node.parts.subList(1, node.parts.size()));
                }
                case "{" -> {
                    Node made = node.parts.get(1);
                    Node old = node.parts.get(2);
                    if (of != null && of.contains(made.name)) {
                        fault(3, made.place);
                    }
                    look(of, old);
                    List<String> columns = of == null ? new ArrayList<>() : new ArrayList<>(of);
                    columns.replaceAll(name -> name.equals(old.name) ? made.name : name);
                    return columns;
                }
                default -> {
                    return grouped(node, of);
                }
            }
        }

        private List<String> picked(List<String> of, List<Node> names) {
            List<String> picks = new ArrayList<>();
            for (Node name : names) {
                look(of, name);
                if (of != null && picks.contains(name.name)) {
                    fault(3, name.place);
                } else if (of != null && of.contains(name.name)) {
                    picks.add(name.name);
                }
            }
            return picks;
        }

        private List<String> grouped(Node node, List<String> of) {
            List<String> picks = picked(of, node.parts.get(1).parts);
            if (picks.size() >= 6) {
                fault(5, node.place);
            }
            Node made = node.parts.get(node.parts.size() - 1);
            if (!node.name.equals("count")) {
                look(of, node.parts.get(2));
            }
            if (picks.contains(made.name)) {
                fault(3, made.place);
            }
            picks.add(made.name);
            return picks;
        }
    }

    // ---- working out

    private static int valueOf(State state, Term term, int world) {
        return term.unknown() ? state.worlds.get(world)[term.number()] : term.number();
    }

    private static Term termOf(State state, Node node) {
        return node.kind.equals("int") ? new Term(false, node.number)
            : new Term(true, state.unknowns.indexOf(node.name));
    }

    private static boolean compare(String relation, int left, int right) {
        return switch (relation) {
            case "=" -> left == right;
            case "!=" -> left != right;
            case "<" -> left < right;
            default -> left <= right;
        };
    }

    private static boolean isSo(State state, Node cond, int world) {
        switch (cond.kind) {
            case "or":
                return cond.parts.stream().anyMatch(part -> isSo(state, part, world));
            case "and":
                return cond.parts.stream().allMatch(part -> isSo(state, part, world));
            case "not":
                return !isSo(state, cond.parts.get(0), world);
            default:
                return compare(cond.name, valueOf(state, termOf(state, cond.parts.get(0)), world),
                    valueOf(state, termOf(state, cond.parts.get(1)), world));
        }
    }

    private static boolean[] everywhere(State state, Node cond) {
        boolean[] so = new boolean[state.worlds.size()];
        for (int w = 0; w < so.length; w++) {
            so[w] = cond == null || isSo(state, cond, w);
        }
        return so;
    }

    private static List<Integer> rowIn(State state, Row row, int world) {
        List<Integer> cells = new ArrayList<>();
        for (Term term : row.terms) {
            cells.add(valueOf(state, term, world));
        }
        return cells;
    }

    private static int order(List<Integer> one, List<Integer> two) {
        for (int i = 0; i < one.size(); i++) {
            if (!one.get(i).equals(two.get(i))) {
                return Integer.compare(one.get(i), two.get(i));
            }
        }
        return 0;
    }

    private static TreeMap<List<Integer>, Integer> rowsIn(State state, Table table, int world) {
        TreeMap<List<Integer>, Integer> rows = new TreeMap<>(Oracle::order);
        for (Row row : table.rows) {
            if (row.there[world]) {
                rows.put(rowIn(state, row, world), 1);
            }
        }
        return rows;
    }

    private static Table work(State state, Map<String, Table> known, Node node) {
        if (node.kind.equals("load")) {
            Table of = known.get(node.name);
            Table copy = new Table();
            copy.columns = new ArrayList<>(of.columns);
            copy.rows = copies(of.rows);
            return copy;
        }
        Table left = work(state, known, node.parts.get(0));
        switch (node.kind) {
            case "+": {
                Table right = work(state, known, node.parts.get(1));
                left.rows.addAll(right.rows);
                return limited(left, node);
            }
            case "-":
                return minus(state, left, work(state, known, node.parts.get(1)));
            case "*":
                return limited(times(state, left, work(state, known, node.parts.get(1))), node);
            case "[":
                for (Row row : left.rows) {
                    test(state, left, row, node);
                }
                return left;
            case ":": {
                List<String> names = node.parts.subList(1, node.parts.size()).stream().map(part -> part.name).toList();
                for (Row row : left.rows) {
                    List<Term> old = new ArrayList<>(row.terms);
                    row.terms.clear();
                    names.forEach(name -> row.terms.add(old.get(left.columns.indexOf(name))));
                }
                left.columns = new ArrayList<>(names);
                return left;
            }
            case "{":
                left.columns.replaceAll(name -> name.equals(node.parts.get(2).name) ? node.parts.get(1).name : name);
                return left;
            default:
                return limited(grouped(state, left, node), node);
        }
    }

    private static List<Row> copies(List<Row> rows) {
        List<Row> copies = new ArrayList<>();
        for (Row row : rows) {
            Row copy = new Row();
            copy.terms.addAll(row.terms);
            copy.there = row.there.clone();
            copies.add(copy);
        }
        return copies;
    }

    private static Table limited(Table table, Node node) {
        if (table.rows.size() > 30) {
            throw new Fault(6, node.place);
        }
        return table;
    }

    private static Table minus(State state, Table left, Table right) {
        for (int w = 0; w < state.worlds.size(); w++) {
            TreeMap<List<Integer>, Integer> gone = rowsIn(state, right, w);
            for (Row row : left.rows) {
                row.there[w] &= !gone.containsKey(rowIn(state, row, w));
            }
        }
        return left;
    }

    private static Table times(State state, Table left, Table right) {
        Table both = new Table();
        both.columns = new ArrayList<>(left.columns);
        right.columns.stream().filter(name -> !left.columns.contains(name)).forEach(both.columns::add);
        for (Row a : left.rows) {
            for (Row b : right.rows) {
                Row row = new Row();
                row.terms.addAll(a.terms);
                row.there = new boolean[state.worlds.size()];
                for (int c = 0; c < right.columns.size(); c++) {
                    if (!left.columns.contains(right.columns.get(c))) {
                        row.terms.add(b.terms.get(c));
                    }
                }
                for (int w = 0; w < row.there.length; w++) {
                    boolean so = a.there[w] && b.there[w];
                    for (int c = 0; c < right.columns.size(); c++) {
                        int mine = left.columns.indexOf(right.columns.get(c));
                        so &= mine < 0 || valueOf(state, a.terms.get(mine), w) == valueOf(state, b.terms.get(c), w);
                    }
                    row.there[w] = so;
                }
                both.rows.add(row);
            }
        }
        return both;
    }

    private static void test(State state, Table table, Row row, Node node) {
        for (int w = 0; w < state.worlds.size(); w++) {
            for (Node test : node.parts.subList(1, node.parts.size())) {
                int[] sides = new int[2];
                for (int i = 0; i < 2; i++) {
                    Node side = test.parts.get(i);
                    Term term = side.kind.equals("columnterm") ? row.terms.get(table.columns.indexOf(side.name))
                        : termOf(state, side);
                    sides[i] = valueOf(state, term, w);
                }
                row.there[w] &= compare(test.name, sides[0], sides[1]);
            }
        }
    }

    private static Table grouped(State state, Table table, Node node) {
        List<Node> picks = node.parts.get(1).parts;
        int folded = node.name.equals("count") ? 0 : table.columns.indexOf(node.parts.get(2).name);
        TreeMap<List<Integer>, boolean[]> all = new TreeMap<>(Oracle::order);
        for (int w = 0; w < state.worlds.size(); w++) {
            Map<List<Integer>, List<Integer>> groups = new HashMap<>();
            for (List<Integer> row : rowsIn(state, table, w).keySet()) {
                List<Integer> key = new ArrayList<>();
                picks.forEach(pick -> key.add(row.get(table.columns.indexOf(pick.name))));
                groups.computeIfAbsent(key, none -> new ArrayList<>()).add(row.get(folded));
            }
            for (Map.Entry<List<Integer>, List<Integer>> group : groups.entrySet()) {
                List<Integer> row = new ArrayList<>(group.getKey());
                row.add(fold(node.name, group.getValue()));
                all.computeIfAbsent(row, none -> new boolean[state.worlds.size()])[w] = true;
            }
        }
        Table made = new Table();
        picks.forEach(pick -> made.columns.add(pick.name));
        made.columns.add(node.parts.get(node.parts.size() - 1).name);
        all.forEach((values, there) -> {
            Row row = new Row();
            values.forEach(value -> row.terms.add(new Term(false, value)));
            row.there = there;
            made.rows.add(row);
        });
        return made;
    }

    private static int fold(String how, List<Integer> values) {
        return switch (how) {
            case "count" -> values.size();
            case "least" -> values.stream().min(Integer::compare).get();
            case "most" -> values.stream().max(Integer::compare).get();
            default -> values.stream().reduce(0, (a, b) -> a + b);
        };
    }

    private static State make(String text) {
        Reader reader = new Reader(text);
        List<Node> tells = reader.text();
        reader.end();
        State state = new State();
        Names names = new Names(state);
        for (Node tell : tells) {
            names.tell(tell);
        }
        if (names.first != null) {
            throw names.first;
        }
        Map<String, Table> known = new HashMap<>();
        for (Node tell : tells) {
            workTell(state, known, tell);
        }
        return state;
    }

    private static void workTell(State state, Map<String, Table> known, Node tell) {
        Table table = state.tables.stream().filter(one -> one.name.equals(tell.name)).findFirst().orElse(null);
        switch (tell.kind) {
            case "table" -> known.put(tell.name, table);
            case "row" -> {
                Row row = new Row();
                tell.parts.get(0).parts.forEach(part -> row.terms.add(termOf(state, part)));
                row.there = everywhere(state, tell.parts.size() > 1 ? tell.parts.get(1) : null);
                table.rows.add(row);
            }
            case "always" -> {
                state.parts.add(everywhere(state, tell.parts.get(0)));
                if (held(state).isEmpty()) {
                    throw new Fault(7, tell.place);
                }
            }
            case "answer" -> {
                table.rows = work(state, known, tell.parts.get(0)).rows;
                known.put(tell.name, table);
            }
            default -> { }
        }
    }

    private static List<Integer> held(State state) {
        List<Integer> held = new ArrayList<>();
        for (int w = 0; w < state.worlds.size(); w++) {
            int world = w;
            if (state.parts.stream().allMatch(part -> part[world])) {
                held.add(w);
            }
        }
        return held;
    }

    // ---- the calls

    int feed(String twenty) {
        if (tape.length() + 20 > 4000) {
            return -1;
        }
        tape += twenty;
        return tape.length();
    }

    int back(int n) {
        if (n < 0 || n > tape.length()) {
            return -1;
        }
        tape = tape.substring(0, tape.length() - n);
        return tape.length();
    }

    void put(String text) {
        tape += text;
    }

    int read() {
        String text = tape;
        tape = "";
        place = -1;
        try {
            state = make(text);
            return 0;
        } catch (Fault fault) {
            place = fault.place;
            return fault.number;
        }
    }

    int place() {
        return place;
    }

    /** The COND on the tape, where it holds; null if it has a fault. */
    private boolean[] cond() {
        String text = tape;
        tape = "";
        place = -1;
        try {
            Reader reader = new Reader(text);
            Node cond = reader.cond(0);
            reader.end();
            Names names = new Names(state);
            names.cond(cond);
            if (names.first != null) {
                throw names.first;
            }
            return everywhere(state, cond);
        } catch (Fault fault) {
            place = fault.place;
            return null;
        }
    }

    int learn() {
        boolean[] so = cond();
        if (so == null) {
            return -1;
        }
        int left = (int) held(state).stream().filter(w -> so[w]).count();
        if (left == 0) {
            return -2;
        }
        if (state.learned == 8) {
            return -3;
        }
        state.learned++;
        state.parts.add(so);
        return left;
    }

    boolean undo() {
        if (state.learned == 0) {
            return false;
        }
        state.learned--;
        state.parts.remove(state.parts.size() - 1);
        return true;
    }

    int ask() {
        boolean[] so = cond();
        if (so == null) {
            return -1;
        }
        state.asked = so;
        return (int) held(state).stream().filter(w -> so[w]).count();
    }

    int why(int i) {
        if (state.asked == null || held(state).stream().anyMatch(w -> state.asked[w])) {
            return -1;
        }
        for (int size = 0; size <= state.parts.size(); size++) {
            List<Integer> set = reason(new ArrayList<>(), 0, size);
            if (set != null) {
                return i >= 0 && i < set.size() ? set.get(i) : -1;
            }
        }
        return -1;
    }

    private List<Integer> reason(List<Integer> set, int from, int more) {
        if (more == 0) {
            for (int w = 0; w < state.worlds.size(); w++) {
                int world = w;
                if (state.asked[w] && set.stream().allMatch(p -> state.parts.get(p)[world])) {
                    return null;
                }
            }
            return set;
        }
        for (int p = from; p < state.parts.size(); p++) {
            List<Integer> larger = new ArrayList<>(set);
            larger.add(p);
            List<Integer> found = reason(larger, p + 1, more - 1);
            if (found != null) {
                return found;
            }
        }
        return null;
    }

    private int world(int k) {
        List<Integer> held = held(state);
        return k >= 0 && k < held.size() ? held.get(k) : -1;
    }

    private Table of(int t) {
        return t >= 0 && t < state.tables.size() ? state.tables.get(t) : null;
    }

    private Row of(int t, int r) {
        Table table = of(t);
        return table != null && r >= 0 && r < table.rows.size() ? table.rows.get(r) : null;
    }

    private static int at(List<Integer> row, int c) {
        return row != null && c >= 0 && c < row.size() ? row.get(c) : NO;
    }

    int value(int k, int u) {
        int world = world(k);
        return world < 0 || u < 0 || u >= state.unknowns.size() ? NO : state.worlds.get(world)[u];
    }

    private TreeMap<List<Integer>, Integer> maybes(Table table) {
        TreeMap<List<Integer>, Integer> rows = new TreeMap<>(Oracle::order);
        for (int w : held(state)) {
            rowsIn(state, table, w).forEach((row, one) -> rows.merge(row, 1, Integer::sum));
        }
        return rows;
    }

    private TreeMap<List<Integer>, Integer> sures(Table table) {
        TreeMap<List<Integer>, Integer> rows = maybes(table);
        rows.values().removeIf(worlds -> worlds != held(state).size());
        return rows;
    }

    int table(int t, int what) {
        Table table = of(t);
        if (table == null) {
            return -1;
        }
        return switch (what) {
            case 0 -> table.rows.size();
            case 1 -> table.columns.size();
            case 2 -> table.answer ? 1 : 0;
            case 3 -> held(state).stream().mapToInt(w -> rowsIn(state, table, w).size()).min().getAsInt();
            case 4 -> held(state).stream().mapToInt(w -> rowsIn(state, table, w).size()).max().getAsInt();
            case 5 -> sures(table).size();
            case 6 -> maybes(table).size();
            default -> -1;
        };
    }

    int term(int t, int r, int c, int what) {
        Row row = of(t, r);
        if (row == null || c < 0 || c >= row.terms.size() || what < 0 || what > 1) {
            return NO;
        }
        Term term = row.terms.get(c);
        return what == 0 ? (term.unknown() ? 1 : 0) : term.number();
    }

    int many(int t, int r) {
        Row row = of(t, r);
        return row == null ? -1 : (int) held(state).stream().filter(w -> row.there[w]).count();
    }

    boolean holds(int t, int r, int k) {
        Row row = of(t, r);
        return row != null && world(k) >= 0 && row.there[world(k)];
    }

    int size(int t, int k) {
        return of(t) == null || world(k) < 0 ? -1 : rowsIn(state, of(t), world(k)).size();
    }

    private static List<Integer> nth(TreeMap<List<Integer>, Integer> rows, int i) {
        return i < 0 || i >= rows.size() ? null : new ArrayList<>(rows.keySet()).get(i);
    }

    int cell(int t, int k, int i, int c) {
        return of(t) == null || world(k) < 0 ? NO : at(nth(rowsIn(state, of(t), world(k)), i), c);
    }

    int sure(int t, int i, int c) {
        return of(t) == null ? NO : at(nth(sures(of(t)), i), c);
    }

    int maybe(int t, int i, int c) {
        return of(t) == null ? NO : at(nth(maybes(of(t)), i), c);
    }

    int often(int t, int i) {
        List<Integer> row = of(t) == null ? null : nth(maybes(of(t)), i);
        return row == null ? -1 : maybes(of(t)).get(row);
    }

    int same(int t, int s) {
        if (of(t) == null || of(s) == null || of(t).columns.size() != of(s).columns.size()) {
            return -2;
        }
        for (int k = 0; k < held(state).size(); k++) {
            if (!rowsIn(state, of(t), world(k)).keySet().equals(rowsIn(state, of(s), world(k)).keySet())) {
                return k;
            }
        }
        return -1;
    }

    int count(int what) {
        return switch (what) {
            case 0 -> held(state).size();
            case 1 -> state.worlds.size();
            case 2 -> state.unknowns.size();
            case 3 -> state.tables.size();
            case 4 -> state.parts.size();
            case 5 -> state.learned;
            case 6 -> tape.length();
            default -> -1;
        };
    }
}
