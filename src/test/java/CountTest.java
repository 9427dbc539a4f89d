/** Promises 8 and 9: count, first. */
public final class CountTest {
    public static void main(String[] args) {
        countOfSums();
        wrongInputs();
        clashes();
        emptyKinds();
        firstThroughEmptyKinds();
        Due.end();
    }

    private static void countOfSums() {
        TablePacker x = Due.sums();
        x.token(5);
        int[] due = {6, 1, 12, 0, 17, 17, 0};
        for (int what = 0; what < due.length; what++) {
            Due.due("sums: count(" + what + ")", x.count(what), due[what]);
        }
    }

    private static void wrongInputs() {
        TablePacker x = Due.sums();
        int[] wrong = {-1, 7, 100, Integer.MIN_VALUE, Integer.MAX_VALUE};
        for (int what : wrong) {
            Due.due("count(" + what + ")", x.count(what), -1);
        }
        int[] wrongKinds = {-1, 8, 20, Integer.MIN_VALUE, Integer.MAX_VALUE};
        for (int kind : wrongKinds) {
            Due.due("first(" + kind + ")", x.first(kind), -1);
        }
    }

    private static void clashes() {
        TablePacker x = new TablePacker();
        Due.rule(x, 0, 1);
        Due.rule(x, 0, 1);
        Due.rule(x, 0, 1);
        Due.due("three rules alike: two clashes with END", x.count(3), 2);
        Due.due("the least rule goes before", x.comes(1, 0), 3000);
        x.clear();
        Due.rule(x, 0, 20, 1, 20);
        Due.rule(x, 0, 2);
        Due.due("a shift goes before a rule", x.count(3), 1);
        Due.due("comes", x.comes(4, 1), 1003);
        x.clear();
        Due.rule(x, 0, 20);
        Due.rule(x, 0, 1);
        Due.due("accept goes before a rule", x.count(3), 1);
        Due.due("comes", x.comes(2, 0), 2000);
    }

    private static void emptyKinds() {
        TablePacker x = new TablePacker();
        Due.rule(x, 7);
        Due.rule(x, 3, 27, 27, 27, 27, 27, 27);
        Due.rule(x, 2, 27, 1);
        Due.rule(x, 1, 23, 27);
        Due.rule(x, 0, 20);
        Due.rule(x, 4, 25);
        Due.rule(x, 5, 24);
        Due.due("only by rows of kinds that can be empty", x.count(6), 1 << 7 | 1 << 3 | 1 << 1);
        Due.rule(x, 5);
        Due.due("a rule more", x.count(6), 1 << 7 | 1 << 3 | 1 << 1 | 1 << 4 | 1 << 5);
    }

    private static void firstThroughEmptyKinds() {
        TablePacker x = new TablePacker();
        Due.rule(x, 0, 21, 22, 3);
        Due.rule(x, 1, 1);
        Due.due("nothing behind a kind that cannot be empty", x.first(0), 1 << 1);
        Due.rule(x, 1);
        Due.due("a kind without rules begins with nothing, and cannot be empty", x.first(0), 1 << 1);
        Due.rule(x, 2, 13);
        Due.due("behind an empty one", x.first(0), 1 << 1 | 1 << 13);
        Due.rule(x, 2);
        Due.due("behind two empty ones", x.first(0), 1 << 1 | 1 << 13 | 1 << 3);
        Due.due("a kind that is not reached is told too", x.first(7), 0);
        Due.rule(x, 7, 27, 5);
        Due.due("it begins with itself alone", x.first(7), 0);
        Due.rule(x, 7);
        Due.due("and can be empty", x.first(7), 1 << 5);
        Due.due("empty is no token", x.first(1), 1 << 1);
    }
}
