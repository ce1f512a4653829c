import java.util.ArrayList;
import java.util.List;

/** All that a small shelf answers: to see that a call left no trace. */
final class Look {
    private final List<String> names = new ArrayList<>();
    private final List<Long> answers = new ArrayList<>();
    private final DimShelf shelf;
    private int others = 0;

    private Look(DimShelf shelf) {
        this.shelf = shelf;
    }

    /** What calls answer that change nothing; the place of a FAULT and the bytes on the tape stand apart. */
    static Look at(DimShelf shelf) {
        Look look = new Look(shelf);
        for (int what = 0; what < 6; what++) {
            look.add("count " + what, shelf.count(what));
        }
        for (int i = 0; i < 4; i++) {
            look.add("why " + i, shelf.why(i));
        }
        int tables = shelf.count(3);
        int worlds = shelf.count(0);
        int unknowns = shelf.count(2);
        for (int t = 0; t < tables; t++) {
            look.addTable(t);
        }
        for (int k = 0; k <= Math.min(4, worlds); k++) {
            for (int u = 0; u < unknowns; u++) {
                look.add("value " + k + " " + u, shelf.value(k, u));
            }
        }
        look.others += 3 + 2 * tables;
        return look;
    }

    /** What is left behind each undo, till none is; the shelf is another one then. */
    static Look undone(DimShelf shelf) {
        Look look = new Look(shelf);
        for (int i = 0; i < 9; i++) {
            look.add("undo " + i, shelf.undo() ? 1 : 0);
            look.add("worlds behind it", shelf.count(0));
            look.add("why behind it", shelf.why(0));
            look.add("size behind it", shelf.size(0, 0));
            look.add("table behind it", shelf.table(0, 6));
        }
        return look;
    }

    /** All calls of it: a shelf is good for 512. */
    int calls() {
        return answers.size() + others;
    }

    void due(Check check, String what, Look want) {
        check.due(what + ": as many answers", answers.size(), want.answers.size());
        for (int i = 0; i < Math.min(answers.size(), want.answers.size()); i++) {
            check.due(what + ": " + names.get(i), answers.get(i), want.answers.get(i));
        }
    }

    private void add(String name, long answer) {
        names.add(name);
        answers.add(answer);
    }

    private void addTable(int t) {
        for (int what = 0; what < 7; what++) {
            add("table " + t + " " + what, shelf.table(t, what));
        }
        int rows = Math.min(4, shelf.table(t, 0));
        int listed = Math.min(3, shelf.table(t, 6));
        for (int r = 0; r < rows; r++) {
            add("many " + t + " " + r, shelf.many(t, r));
            add("holds " + t + " " + r, shelf.holds(t, r, 0) ? 1 : 0);
            add("term " + t + " " + r, shelf.term(t, r, 0, 0));
            add("term " + t + " " + r, shelf.term(t, r, 0, 1));
        }
        for (int i = 0; i < listed; i++) {
            add("maybe " + t + " " + i, shelf.maybe(t, i, 0));
            add("sure " + t + " " + i, shelf.sure(t, i, 0));
            add("often " + t + " " + i, shelf.often(t, i));
            add("size " + t + " " + i, shelf.size(t, i));
            add("cell " + t + " " + i, shelf.cell(t, i, 0, 0));
        }
        add("same " + t, shelf.same(0, t));
    }
}
