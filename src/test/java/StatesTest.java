/** Promises 10 to 12: state, ahead, comes. */
public final class StatesTest {
    public static void main(String[] args) {
        statesOfSums();
        wrongInputs();
        numberedByTokensBeforeKinds();
        lookingAheadByState();
        lookingAheadPastEmptyKinds();
        emptySets();
        Due.end();
    }

    private static void statesOfSums() {
        TablePacker x = Due.sums();
        int[] items = {7, 7, 1, 2, 2, 1, 2, 5, 3, 1, 2, 1};
        for (int q = 0; q < items.length; q++) {
            Due.due("state(" + q + ", 0)", x.state(q, 0), items[q]);
        }
        int[][] leads = {{0, 103, 1}, {0, 105, 2}, {0, 120, 3}, {0, 121, 4}, {0, 122, 5}, {1, 120, 6}, {1, 103, 1},
            {3, 101, 7}, {4, 102, 8}, {6, 104, 9}, {7, 121, 10}, {8, 122, 11}, {10, 102, 8}, {0, 101, -1}, {0, 100, -1},
            {3, 100, -1}, {2, 120, -1}, {0, 123, -1}};
        for (int[] lead : leads) {
            Due.due("state(" + lead[0] + ", " + lead[1] + ")", x.state(lead[0], lead[1]), lead[2]);
        }
        Due.due("comes(0, 5)", x.comes(0, 5), 1002);
        Due.due("comes(3, 0)", x.comes(3, 0), 2000);
        Due.due("comes(4, 2)", x.comes(4, 2), 1008);
        Due.due("comes(4, 4)", x.comes(4, 4), 3001);
        Due.due("comes(11, 2)", x.comes(11, 2), 3002);
        Due.due("comes(11, 3)", x.comes(11, 3), 0);
        Due.due("comes(0, 13)", x.comes(0, 13), 0);
        int anySum = 1 << 0 | 1 << 1 | 1 << 4;
        Due.due("ahead(0, 24, 0)", x.ahead(0, 24, 0), 1);
        Due.due("ahead(3, 24, 1)", x.ahead(3, 24, 1), 1);
        Due.due("ahead(0, 0, 0)", x.ahead(0, 0, 0), 1 << 0 | 1 << 1);
        Due.due("ahead(1, 0, 0)", x.ahead(1, 0, 0), 1 << 1 | 1 << 4);
        Due.due("ahead(7, 0, 2)", x.ahead(7, 0, 2), anySum);
        Due.due("ahead(11, 2, 3)", x.ahead(11, 2, 3), anySum | 1 << 2);
    }

    private static void wrongInputs() {
        TablePacker x = Due.sums();
        int[] wrongStates = {-1, 12, 99, 100, Integer.MIN_VALUE, Integer.MAX_VALUE};
        for (int q : wrongStates) {
            Due.due("state(" + q + ", 0)", x.state(q, 0), -1);
            Due.due("state(" + q + ", 120)", x.state(q, 120), -1);
            Due.due("ahead(" + q + ", 24, 0)", x.ahead(q, 24, 0), -1);
            Due.due("comes(" + q + ", 0)", x.comes(q, 0), -1);
        }
        int[] wrongWhats = {-1, 1, 2, 20, 99, 114, 119, 128, 200, Integer.MIN_VALUE, Integer.MAX_VALUE};
        for (int what : wrongWhats) {
            Due.due("state(0, " + what + ")", x.state(0, what), -1);
        }
        int[] wrongTokens = {-1, 14, 20, Integer.MIN_VALUE, Integer.MAX_VALUE};
        for (int token : wrongTokens) {
            Due.due("comes(0, " + token + ")", x.comes(0, token), -1);
        }
        int[] wrongRules = {-1, 6, 23, 25, Integer.MIN_VALUE, Integer.MAX_VALUE};
        for (int rule : wrongRules) {
            Due.due("ahead(0, " + rule + ", 0)", x.ahead(0, rule, 0), -1);
        }
        int[] wrongPlaces = {-7, -1, 1, 2, 3, 4, 6, 7, 8, Integer.MIN_VALUE, Integer.MAX_VALUE};
        for (int place : wrongPlaces) {
            Due.due("ahead(0, 0, " + place + ")", x.ahead(0, 0, place), -1);
            Due.due("ahead(0, 24, " + place + ")", x.ahead(0, 24, place), -1);
        }
        Due.due("ahead(0, 1, -7) is not rule 0", x.ahead(0, 1, -7), -1);
        Due.due("ahead(0, 0, 7) is not rule 1", x.ahead(0, 0, 7), -1);
        Due.due("ahead(3, 24, 2)", x.ahead(3, 24, 2), -1);
    }

    private static void numberedByTokensBeforeKinds() {
        TablePacker x = new TablePacker();
        Due.rule(x, 0, 27, 13);
        Due.rule(x, 0, 21, 1);
        Due.rule(x, 7, 9);
        Due.rule(x, 1, 2);
        int[][] leads = {{0, 102, 1}, {0, 109, 2}, {0, 120, 3}, {0, 121, 4}, {0, 127, 5}, {4, 101, 6}, {5, 113, 7}};
        for (int[] lead : leads) {
            Due.due("state(" + lead[0] + ", " + lead[1] + ")", x.state(lead[0], lead[1]), lead[2]);
        }
        Due.due("count(2)", x.count(2), 8);
    }

    // The sets of a state are joined over all ways to it, but not over other states with the same rule.
    private static void lookingAheadByState() {
        TablePacker x = new TablePacker();
        Due.rule(x, 0, 1, 21, 4);
        Due.rule(x, 0, 2, 21, 5);
        Due.rule(x, 0, 1, 3, 5);
        Due.rule(x, 1, 3);
        int shared = x.state(x.state(0, 102), 103);
        int own = x.state(x.state(0, 101), 103);
        Due.due("behind 2: ahead of rule 3", x.ahead(shared, 3, 1), 1 << 5);
        Due.due("behind 1: ahead of rule 3", x.ahead(own, 3, 1), 1 << 4);
        Due.due("no clash", x.count(3), 0);
        Due.due("comes", x.comes(own, 5), 1000 + x.state(own, 105));
        x.clear();
        Due.rule(x, 0, 1, 21, 4);
        Due.rule(x, 0, 2, 21, 5);
        Due.rule(x, 1, 3);
        Due.due("one state: joined", x.ahead(x.state(x.state(0, 101), 103), 2, 1), 1 << 4 | 1 << 5);
    }

    private static void lookingAheadPastEmptyKinds() {
        TablePacker x = new TablePacker();
        Due.rule(x, 0, 21, 22, 23);
        Due.rule(x, 1, 1);
        Due.rule(x, 2, 2);
        Due.rule(x, 2);
        Due.rule(x, 3, 3);
        Due.rule(x, 3);
        Due.due("what the rest begins with, and END", x.ahead(0, 1, 0), 1 << 0 | 1 << 2 | 1 << 3);
        int behindOne = x.state(0, 121);
        Due.due("of the second kind", x.ahead(behindOne, 2, 0), 1 << 0 | 1 << 3);
        Due.due("of its empty rule", x.ahead(behindOne, 3, 0), 1 << 0 | 1 << 3);
        Due.due("reduced by the empty rule", x.comes(behindOne, 3), 3003);
        int behindTwo = x.state(behindOne, 122);
        Due.due("of the third kind", x.ahead(behindTwo, 5, 0), 1);
    }

    private static void emptySets() {
        TablePacker x = new TablePacker();
        Due.rule(x, 0, 21, 22);
        Due.rule(x, 1, 1);
        int q = x.state(0, 101);
        Due.due("no token can follow: the item is there", x.ahead(q, 1, 1), 0);
        Due.due("and nothing comes", x.comes(q, 0), 0);
        Due.due("nor is there a default", x.row(q, 0), -1);
        Due.due("a kind without rules leads on all the same", x.state(x.state(x.state(0, 121), 122), 0), 1);
    }
}
