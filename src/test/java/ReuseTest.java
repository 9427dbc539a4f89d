/** Nothing of an earlier grammar is left in an object: a second one is told as by a new object. */
public final class ReuseTest {
    public static void main(String[] args) {
        afterwards("a large grammar", Due.hundredStates());
        afterwards("one that is too large", Due.tooLarge());
        afterwards("one with empty rules", emptyRules());
        growing();
        Due.end();
    }

    private static TablePacker emptyRules() {
        TablePacker x = new TablePacker();
        for (int kind = 0; kind < 8; kind++) {
            Due.rule(x, kind, 20 + (kind + 1) % 8, 20 + (kind + 2) % 8, kind + 1);
            Due.rule(x, kind);
        }
        return x;
    }

    private static void afterwards(String before, TablePacker used) {
        used.count(5);
        used.parse(0);
        used.clear();
        Due.rule(used, 0, 20, 1, 21);
        Due.rule(used, 0, 21);
        Due.rule(used, 1, 21, 2, 22);
        Due.rule(used, 1, 22);
        Due.rule(used, 2, 3, 20, 4);
        Due.rule(used, 2, 5);
        alike("after " + before, used, Due.sums());
    }

    private static void alike(String when, TablePacker used, TablePacker fresh) {
        for (int what = 0; what < 7; what++) {
            Due.due(when + ": count(" + what + ")", used.count(what), fresh.count(what));
        }
        for (int kind = 0; kind < 8; kind++) {
            Due.due(when + ": first(" + kind + ")", used.first(kind), fresh.first(kind));
            Due.due(when + ": row of kind " + kind, used.row(100 + kind, 0), fresh.row(100 + kind, 0));
        }
        for (int q = 0; q < 13; q++) {
            Due.due(when + ": state(" + q + ", 0)", used.state(q, 0), fresh.state(q, 0));
            for (int token = 0; token < 6; token++) {
                Due.due(when + ": comes(" + q + ", " + token + ")", used.comes(q, token), fresh.comes(q, token));
            }
        }
        for (int k = 0; k < 20; k++) {
            Due.due(when + ": place(" + k + ", 0)", used.place(k, 0), fresh.place(k, 0));
            Due.due(when + ": place(" + k + ", 1)", used.place(k, 1), fresh.place(k, 1));
        }
        Due.due(when + ": check()", used.check(), 1);
    }

    // Tables are asked for between the rules, so they are made anew each time.
    private static void growing() {
        TablePacker x = new TablePacker();
        int[][] rows = {{1}, {2}, {20, 3}, {}};
        int[] states = {3, 4, 5, 5};
        for (int i = 0; i < rows.length; i++) {
            Due.rule(x, 0, rows[i]);
            Due.due("count(0)", x.count(0), i + 1);
            Due.due("count(2) with " + (i + 1) + " rules", x.count(2), states[i]);
        }
        Due.due("count(6)", x.count(6), 1);
        Due.due("comes(0, 3)", x.comes(0, 3), 3003);
    }
}
