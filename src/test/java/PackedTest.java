/** Promises 13, 14 and 18: row, place, check. */
public final class PackedTest {
    public static void main(String[] args) {
        rowsOfSums();
        placesOfSums();
        wrongInputs();
        defaults();
        basesBySize();
        placesOfNoRow();
        kindsWithoutEntries();
        Due.end();
    }

    private static void rowsOfSums() {
        TablePacker x = Due.sums();
        int[][] rows = {{0, -1, 2, 0}, {1, -1, 2, 1}, {2, 5, 0, -1}, {3, -1, 2, 0}, {4, 1, 1, 0}, {5, 3, 0, -1},
            {6, -1, 2, 6}, {7, -1, 2, 6}, {8, -1, 2, 9}, {9, 4, 0, -1}, {10, 0, 1, 6}, {11, 2, 0, -1}, {100, 3, 1, 12},
            {101, 4, 1, 8}, {102, 5, 1, 8}};
        for (int[] row : rows) {
            for (int what = 0; what < 3; what++) {
                Due.due("row(" + row[0] + ", " + what + ")", x.row(row[0], what), row[what + 1]);
            }
        }
        Due.due("check()", x.check(), 1);
    }

    private static void placesOfSums() {
        TablePacker x = Due.sums();
        int[] owners = {3, 3, 4, 0, 1, 0, 1, 6, 10, 7, 6, 7, 8, 100, 8, 101, 102};
        int[] entries = {2000, 1007, 1008, 1001, 1001, 1002, 1002, 1007, 1008, 1001, 1009, 1002, 1001, 6, 1002, 10, 11};
        for (int k = 0; k < owners.length; k++) {
            Due.due("place(" + k + ", 0)", x.place(k, 0), owners[k]);
            Due.due("place(" + k + ", 1)", x.place(k, 1), entries[k]);
        }
        Due.due("behind the table", x.place(17, 0), -1);
        Due.due("count(5)", x.count(5), 17);
    }

    private static void wrongInputs() {
        TablePacker x = Due.sums();
        int[] wrongRows = {-1, 12, 50, 99, 108, 120, Integer.MIN_VALUE, Integer.MAX_VALUE};
        for (int r : wrongRows) {
            for (int what = 0; what < 3; what++) {
                Due.due("row(" + r + ", " + what + ")", x.row(r, what), -1);
            }
        }
        int[] wrongWhats = {-1, 3, 100, Integer.MIN_VALUE, Integer.MAX_VALUE};
        for (int what : wrongWhats) {
            Due.due("row(3, " + what + ")", x.row(3, what), -1);
            Due.due("row(101, " + what + ")", x.row(101, what), -1);
        }
        int[] wrongPlaces = {-1, 17, 2199, 2200, 5000, Integer.MIN_VALUE, Integer.MAX_VALUE};
        for (int k : wrongPlaces) {
            Due.due("place(" + k + ", 0)", x.place(k, 0), -1);
            Due.due("place(" + k + ", 1)", x.place(k, 1), -1);
        }
        Due.due("place(0, 2)", x.place(0, 2), -1);
        Due.due("place(0, -1)", x.place(0, -1), -1);
    }

    private static void defaults() {
        TablePacker x = new TablePacker();
        Due.rule(x, 0, 21, 3);
        Due.rule(x, 0, 22, 4);
        Due.rule(x, 0, 22, 5);
        Due.rule(x, 1, 1);
        Due.rule(x, 2, 1);
        int q = x.state(0, 101);
        Due.due("with the most tokens: row(1, 0)", x.row(q, 0), 4);
        Due.due("the other rule is an entry: row(1, 1)", x.row(q, 1), 1);
        int base = x.row(q, 2);
        Due.due("its place", x.place(base + 3, 0), q);
        Due.due("its entry", x.place(base + 3, 1), 3003);
        Due.due("the default has no place", x.place(base + 4, 0) != q);
        Due.rule(x, 0, 21, 6);
        Due.due("of as many the least rule: row(1, 0)", x.row(x.state(0, 101), 0), 3);
    }

    // The kind's row has two entries: it goes after the state's with three, and before those with one.
    private static void basesBySize() {
        TablePacker x = new TablePacker();
        Due.rule(x, 0, 1, 21, 1);
        Due.rule(x, 0, 2, 21, 2);
        Due.rule(x, 0, 3, 21, 3);
        Due.rule(x, 1, 4);
        int[][] rows = {{0, -1, 3, 0}, {1, -1, 1, 2}, {2, -1, 1, 3}, {3, -1, 1, 4}, {4, -1, 1, 0}, {5, 3, 0, -1},
            {6, -1, 1, 8}, {7, -1, 1, 8}, {8, -1, 1, 8}, {9, 0, 0, -1}, {10, 1, 0, -1}, {11, 2, 0, -1}, {100, 4, 0, -1},
            {101, 6, 2, 2}};
        for (int[] row : rows) {
            for (int what = 0; what < 3; what++) {
                Due.due("row(" + row[0] + ", " + what + ")", x.row(row[0], what), row[what + 1]);
            }
        }
        int[] owners = {4, 0, 0, 0, 101, 101, 1, 2, 3, 6, 7, 8};
        int[] entries = {2000, 1001, 1002, 1003, 7, 8, 1005, 1005, 1005, 1009, 1010, 1011};
        for (int k = 0; k < owners.length; k++) {
            Due.due("place(" + k + ", 0)", x.place(k, 0), owners[k]);
            Due.due("place(" + k + ", 1)", x.place(k, 1), entries[k]);
        }
        Due.due("count(4)", x.count(4), 12);
        Due.due("count(5)", x.count(5), 12);
        Due.due("check()", x.check(), 1);
    }

    private static void placesOfNoRow() {
        TablePacker x = new TablePacker();
        Due.rule(x, 0, 13);
        Due.due("entries of 13 and of END", x.count(4), 2);
        Due.due("as long as the last place tells", x.count(5), 14);
        Due.due("place(0, 1)", x.place(0, 1), 2000);
        Due.due("place(13, 1)", x.place(13, 1), 1001);
        for (int k = 1; k < 13; k++) {
            Due.due("place(" + k + ", 0)", x.place(k, 0), -1);
            Due.due("place(" + k + ", 1)", x.place(k, 1), -1);
        }
    }

    private static void kindsWithoutEntries() {
        TablePacker x = new TablePacker();
        Due.rule(x, 0, 1);
        Due.due("row(100, 0)", x.row(100, 0), 2);
        Due.due("row(100, 1)", x.row(100, 1), 0);
        Due.due("row(100, 2)", x.row(100, 2), -1);
        Due.due("a kind that leads nowhere: row(107, 0)", x.row(107, 0), -1);
        Due.due("row(107, 1)", x.row(107, 1), 0);
        Due.due("row(107, 2)", x.row(107, 2), -1);
    }
}
