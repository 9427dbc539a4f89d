/** The limit of 100 states, and what each call answers beyond it. */
public final class TooLargeTest {
    public static void main(String[] args) {
        justLargeEnough();
        tooLarge();
        theLatestParseStays();
        afterClear();
        Due.end();
    }

    private static void justLargeEnough() {
        TablePacker x = Due.hundredStates();
        Due.due("count(2)", x.count(2), 100);
        Due.due("count(3)", x.count(3), 0);
        Due.due("entries: 98 shifts and accept", x.count(4), 99);
        Due.due("state(99, 0)", x.state(99, 0), 1);
        Due.due("state(100, 0)", x.state(100, 0), -1);
        Due.due("row(99, 1)", x.row(99, 1), 0);
        Due.due("row(100, 0)", x.row(100, 0), 14);
        Due.due("comes(99, 0)", x.comes(99, 0), 3012);
        Due.due("ahead(99, 12, 6)", x.ahead(99, 12, 6), 1);
        Due.due("check()", x.check(), 1);
        Due.tokens(x, 1, 5, 1, 1, 1, 1);
        Due.due("parse(0)", x.parse(0), 0);
        Due.due("reduction(0)", x.reduction(0), 16);
        Due.due("parse(1)", x.parse(1), 0);
    }

    private static void tooLarge() {
        TablePacker x = Due.tooLarge();
        x.token(1);
        int[] counts = {18, 1, -2, -2, -2, -2, 0, -1};
        for (int what = 0; what < counts.length; what++) {
            Due.due("count(" + what + ")", x.count(what), counts[what]);
        }
        Due.due("count(-1)", x.count(-1), -1);
        Due.due("first(0)", x.first(0), (1 << 14) - 2);
        Due.due("first(8)", x.first(8), -1);
        Due.due("state(0, 0)", x.state(0, 0), -2);
        Due.due("state(0, 101)", x.state(0, 101), -2);
        Due.due("ahead(0, 24, 0)", x.ahead(0, 24, 0), -2);
        Due.due("comes(0, 1)", x.comes(0, 1), -2);
        Due.due("row(0, 0)", x.row(0, 0), -2);
        Due.due("row(100, 2)", x.row(100, 2), -2);
        Due.due("place(0, 0)", x.place(0, 0), -2);
        Due.due("place(0, 1)", x.place(0, 1), -2);
        Due.due("parse(0)", x.parse(0), -2);
        Due.due("parse(1)", x.parse(1), -2);
        Due.due("parse(2)", x.parse(2), -1);
        Due.due("parsed(2)", x.parsed(2), 0);
        Due.due("reduction(0)", x.reduction(0), -1);
        Due.due("check()", x.check(), 1);
    }

    private static void theLatestParseStays() {
        TablePacker x = Due.hundredStates();
        Due.tokens(x, 3, 1, 1, 1, 1, 1);
        Due.due("parse(1)", x.parse(1), 0);
        Due.rule(x, 0, 2, 2);
        Due.tokens(x, 2);
        Due.due("parse(1), too large", x.parse(1), -2);
        Due.due("parsed(0)", x.parsed(0), 1);
        Due.due("parsed(1)", x.parsed(1), 6);
        Due.due("parsed(2)", x.parsed(2), 2);
        Due.due("reduction(0)", x.reduction(0), 2);
    }

    private static void afterClear() {
        TablePacker x = Due.tooLarge();
        Due.due("count(2)", x.count(2), -2);
        Due.due("clear()", x.clear(), 18);
        Due.due("count(2)", x.count(2), 2);
        Due.rule(x, 0, 1);
        Due.due("count(2)", x.count(2), 3);
        Due.due("count(5)", x.count(5), 2);
        Due.due("comes(1, 0)", x.comes(1, 0), 3000);
        Due.due("check()", x.check(), 1);
    }
}
