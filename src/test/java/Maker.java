import java.util.ArrayList;
import java.util.List;

/** Makes texts and CONDs by a row of numbers that is always the same: mostly good ones, and broken ones of these. */
final class Maker {
    private static final String[] TOKENS = {"unknown", "table", "row", "if", "always", "answer", "count", "least",
        "most", "sum", "a", "b", "c", "t0", "t1", "u", "v", "zz", "abcdefgh", "abcdefghi", "1", "2", "0", "9999",
        "12345", "..", "!=", "<=", "(", ")", "[", "]", "{", "}", ",", ";", ":", "?", "#", "+", "-", "*", "=", "<",
        "&", "|", "!", ".", "A", "_", "\"", "\u0080", "\u00ff", "\u0000", ">", "a1", "1a", "\t", "\r\n"};
    private static final String[] COLUMNS = {"a", "b", "c", "d", "e", "f", "g", "h"};

    private long seed;
    private final List<String> unknowns = new ArrayList<>();
    private final List<String> tables = new ArrayList<>();
    private final List<List<String>> columns = new ArrayList<>();
    private int wrongness;

    Maker(long seed) {
        this.seed = seed;
        below(7);
    }

    int below(int bound) {
        seed = seed * 6364136223846793005L + 1442695040888963407L;
        return (int) ((seed >>> 33) % bound);
    }

    private String one(String... from) {
        return from[below(from.length)];
    }

    private String one(List<String> from) {
        if (from.isEmpty() || below(1000) < wrongness) {
            return one("zz", "a", "b", "c", "t0", "u0");
        }
        return from.get(below(from.size()));
    }

    private String number() {
        return below(4) == 0 ? "-" + below(4) : "" + below(5);
    }

    /** A text of so many tells; of a thousand choices of a name about so many are wrong. */
    String text(int tells, int wrong, int largest) {
        wrongness = wrong;
        unknowns.clear();
        tables.clear();
        columns.clear();
        StringBuilder text = new StringBuilder();
        int worlds = 1;
        for (int i = 0; i < tells; i++) {
            int kind = i == 0 ? 0 : i == 1 ? 2 : below(20);
            if (kind < 2 && unknowns.size() < 7) {
                worlds *= unknown(text, worlds, largest);
            } else if (kind < 4 && tables.size() < 9) {
                table(text);
            } else if (kind < 13 && !tables.isEmpty()) {
                row(text);
            } else if (kind < 15 && i > 5) {
                text.append("always ").append(below(4) == 0 ? cond(2) : clause(2 + below(2))).append(';');
            } else if (tables.size() < 10 && !tables.isEmpty()) {
                answer(text);
            }
            text.append(one("", "", "", " ", "\n"));
        }
        return text.toString();
    }

    private int unknown(StringBuilder text, int worlds, int largest) {
        String name = below(1000) < wrongness ? "u0" : "u" + unknowns.size();
        int size = 1 + below(4);
        if (worlds * size > largest) {
            size = 1;
        }
        text.append("unknown ").append(name).append(':');
        if (below(2) == 0) {
            int first = below(5) - 2;
            text.append(first).append("..").append(first + size - 1);
        } else {
            int start = below(7) - 3;
            for (int i = 0; i < size; i++) {
                text.append(i == 0 ? "" : ",").append(start + i * 5 % 7);
            }
        }
        text.append(';');
        unknowns.add(name);
        return size;
    }

    private void table(StringBuilder text) {
        String name = below(1000) < wrongness ? "t0" : "t" + tables.size();
        List<String> own = new ArrayList<>();
        int from = below(3);
        int width = 1 + below(4);
        for (int c = 0; c < width; c++) {
            own.add(below(1000) < wrongness ? "a" : COLUMNS[(from + c) % 5]);
        }
        text.append("table ").append(name).append('(').append(String.join(",", own)).append(");");
        tables.add(name);
        columns.add(own);
        int rows = below(5);
        for (int i = 0; i < rows; i++) {
            row(text, tables.size() - 1);
        }
    }

    private void row(StringBuilder text) {
        int t = below(tables.size());
        for (int i = 0; i < 5 && isAnswer(t) && wrongness < below(1000); i++) {
            t = below(tables.size());
        }
        row(text, t);
    }

    private void row(StringBuilder text, int t) {
        int width = below(1000) < wrongness ? 1 + below(5) : columns.get(t).size();
        if (isAnswer(t) && below(1000) >= wrongness) {
            return;
        }
        text.append("row ").append(one(List.of(tables.get(t)))).append('(');
        for (int c = 0; c < width; c++) {
            text.append(c == 0 ? "" : ",").append(below(3) == 0 ? "?" + one(unknowns) : "" + below(3));
        }
        text.append(')');
        if (below(2) == 0) {
            text.append(" if ").append(cond(2));
        }
        text.append(';');
    }

    private boolean isAnswer(int t) {
        return tables.get(t).startsWith("x");
    }

    private String side() {
        return below(3) > 0 ? "?" + one(unknowns) : number();
    }

    private String testSide() {
        return below(3) == 0 ? "?" + one(unknowns) : "" + below(3);
    }

    String cond(int depth) {
        StringBuilder text = new StringBuilder();
        int parts = 1 + below(depth > 0 ? 3 : 1);
        for (int i = 0; i < parts; i++) {
            text.append(i == 0 ? "" : one("&", "|", " | ", " & "));
            int kind = below(8);
            if (kind == 0 && depth > 0) {
                text.append('!').append('(').append(cond(depth - 1)).append(')');
            } else if (kind == 1 && depth > 0) {
                text.append('(').append(cond(depth - 1)).append(')');
            } else {
                text.append(kind == 2 ? "!" : kind == 3 ? "!!" : "");
                text.append(side()).append(one("=", "!=", "<", "<=", " = ", "=")).append(side());
            }
        }
        return text.toString();
    }

    /** A COND that holds in most WORLDS. */
    String clause(int parts) {
        StringBuilder text = new StringBuilder();
        for (int i = 0; i < parts; i++) {
            text.append(i == 0 ? "" : "|").append('?').append(one(unknowns)).append(one("!=", "!=", "<=", "=", "<"));
            text.append(below(2) == 0 ? "" + below(3) : "?" + one(unknowns));
        }
        return text.toString();
    }

    /** A text of UNKNOWNS and PARTS alone. */
    String riddle(int parts) {
        wrongness = 0;
        unknowns.clear();
        StringBuilder text = new StringBuilder();
        int many = 4 + below(3);
        for (int u = 0; u < many; u++) {
            text.append("unknown u").append(u).append(":0..").append(many < 6 ? 2 : 1).append(';');
            unknowns.add("u" + u);
        }
        for (int i = 0; i < parts; i++) {
            text.append("always ").append(clause(2 + below(2))).append(';');
        }
        return text.toString();
    }

    private void answer(StringBuilder text) {
        String name = below(1000) < wrongness ? "t0" : "x" + tables.size();
        List<String> own = new ArrayList<>();
        text.append("answer ").append(name).append('=').append(query(own, 2)).append(';');
        tables.add(name);
        columns.add(own);
    }

    /** A Q; its COLUMNS come into the list. */
    private String query(List<String> own, int depth) {
        int kind = below(6);
        if (kind == 0 && depth > 0) {
            List<String> right = new ArrayList<>();
            String left = source(own, depth);
            String text = left + "*" + source(right, depth);
            right.stream().filter(name -> !own.contains(name)).forEach(own::add);
            return text;
        }
        if (kind <= 2 && depth > 0) {
            return sum(own, depth);
        }
        return source(own, depth);
    }

    private String sum(List<String> own, int depth) {
        StringBuilder text = new StringBuilder(source(own, depth));
        List<String> picks = some(own);
        text.append(":(").append(String.join(",", picks)).append(')');
        own.clear();
        own.addAll(picks);
        String left = text.toString();
        int more = 1 + below(2);
        for (int i = 0; i < more; i++) {
            text.append(one("+", "-", "-")).append(like(own, left));
        }
        return text.toString();
    }

    /** A Q with these COLUMNS, of a TABLE that has them all, or of what is on the left. */
    private String like(List<String> own, String left) {
        for (int i = 0; i < 20; i++) {
            int t = below(tables.size());
            if (columns.get(t).containsAll(own) || below(1000) < wrongness) {
                return tables.get(t) + (below(2) == 0 ? "[" + tests(columns.get(t)) + "]" : "")
                    + (columns.get(t).equals(own) ? "" : ":(" + String.join(",", own) + ")");
            }
        }
        return below(1000) < wrongness ? tables.get(0) : "(" + left + ")[" + tests(own) + "]";
    }

    private List<String> some(List<String> own) {
        List<String> picks = new ArrayList<>();
        for (String name : own) {
            if (below(3) > 0) {
                picks.add(below(picks.size() + 1), name);
            }
        }
        if (picks.isEmpty()) {
            picks.add(one(own));
        }
        if (below(1000) < wrongness) {
            picks.add(one("a", "b", "zz"));
        }
        return picks;
    }

    private String tests(List<String> own) {
        StringBuilder text = new StringBuilder();
        int tests = 1 + below(2);
        for (int i = 0; i < tests; i++) {
            text.append(i == 0 ? "" : ",").append(below(5) > 0 ? one(own) : testSide());
            text.append(one("=", "!=", "<=", "<=", "<")).append(below(3) == 0 ? one(own) : testSide());
        }
        return text.toString();
    }

    private String source(List<String> own, int depth) {
        String text;
        if (depth > 0 && below(3) == 0) {
            text = "(" + query(own, depth - 1) + ")";
        } else {
            int t = below(tables.size());
            text = below(1000) < wrongness ? "zz" : tables.get(t);
            own.addAll(columns.get(t));
        }
        int steps = below(3);
        for (int i = 0; i < steps; i++) {
            text += step(own);
        }
        return text;
    }

    private String step(List<String> own) {
        switch (below(5)) {
            case 0:
            case 1:
                return "[" + tests(own) + "]";
            case 2: {
                List<String> picks = some(own);
                own.clear();
                own.addAll(picks);
                return ":(" + String.join(",", picks) + ")";
            }
            case 3: {
                String old = one(own);
                String made = fresh(own);
                own.replaceAll(name -> name.equals(old) ? made : name);
                return "{" + made + "=" + old + "}";
            }
            default:
                return group(own);
        }
    }

    private String fresh(List<String> own) {
        for (int i = 0; i < 20; i++) {
            String name = one(COLUMNS);
            if (!own.contains(name)) {
                return name;
            }
        }
        return one(COLUMNS);
    }

    private String group(List<String> own) {
        List<String> picks = below(4) == 0 ? new ArrayList<>() : some(own);
        String how = one("count", "least", "most", "sum");
        String text = "#(" + String.join(",", picks) + ")" + how + (how.equals("count") ? "" : " " + one(own));
        String made = fresh(picks);
        own.clear();
        own.addAll(picks);
        own.add(made);
        return text + " " + made;
    }

    /** The text with some of its bytes or words gone, doubled or others. */
    String broken(String text) {
        StringBuilder made = new StringBuilder(text);
        int edits = 1 + below(2);
        for (int i = 0; i < edits; i++) {
            int at = below(made.length() + 1);
            int end = Math.min(made.length(), at + below(4));
            switch (below(4)) {
                case 0 -> made.delete(at, end);
                case 1 -> made.insert(at, one(TOKENS));
                case 2 -> made.replace(at, end, one(TOKENS));
                default -> made.setLength(below(3) == 0 ? at : made.length());
            }
        }
        return made.toString();
    }

    /** A row of tokens without a sense. */
    String noise(int tokens) {
        StringBuilder made = new StringBuilder();
        for (int i = 0; i < tokens; i++) {
            made.append(one(TOKENS)).append(one("", " "));
        }
        return made.toString();
    }
}
