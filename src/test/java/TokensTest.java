/** Promises 6 and 7: token, drop. */
public final class TokensTest {
    public static void main(String[] args) {
        wrongTokens();
        atMost100();
        drop();
        Due.end();
    }

    private static void wrongTokens() {
        TablePacker x = new TablePacker();
        int[] wrong = {0, -1, 14, 20, 27, Integer.MIN_VALUE, Integer.MAX_VALUE};
        for (int t : wrong) {
            Due.due("token(" + t + ")", x.token(t), -1);
        }
        Due.due("count(1)", x.count(1), 0);
        for (int t = 1; t <= 13; t++) {
            Due.due("token(" + t + ")", x.token(t), t);
            Due.due("token(0) in between", x.token(0), -1);
        }
        Due.due("count(1)", x.count(1), 13);
    }

    private static void atMost100() {
        TablePacker x = new TablePacker();
        for (int i = 1; i <= 100; i++) {
            Due.due("token " + i, x.token(1), i);
        }
        Due.due("token 101", x.token(1), -1);
        Due.due("count(1)", x.count(1), 100);
        Due.rule(x, 0, 20, 1);
        Due.rule(x, 0, 1);
        Due.due("all 100 are parsed", x.parse(0), 0);
        Due.due("parsed(0)", x.parsed(0), 100);
        Due.due("parsed(1)", x.parsed(1), 100);
        Due.due("drop", x.drop(), 100);
        Due.due("token after drop", x.token(2), 1);
    }

    private static void drop() {
        TablePacker x = Due.sums();
        Due.due("drop of none", x.drop(), 0);
        x.token(5);
        x.token(1);
        x.token(5);
        Due.due("parse(0)", x.parse(0), 0);
        Due.due("drop", x.drop(), 3);
        Due.due("drop again", x.drop(), 0);
        Due.due("count(1)", x.count(1), 0);
        Due.due("rules stay", x.count(0), 6);
        Due.due("the latest parse stays", x.parsed(1), 3);
        Due.due("no tokens are parsed now", x.parse(0), 1);
        Due.due("parsed(1)", x.parsed(1), 0);
    }
}
