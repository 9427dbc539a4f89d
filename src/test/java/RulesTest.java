/** Promises 1 to 5: a new object, begin, put, close, clear. */
public final class RulesTest {
    public static void main(String[] args) {
        newObject();
        begin();
        beginAtMost24();
        put();
        close();
        clear();
        openRulesDoNotCount();
        Due.end();
    }

    private static void newObject() {
        TablePacker x = new TablePacker();
        Due.due("new: count(0)", x.count(0), 0);
        Due.due("new: count(1)", x.count(1), 0);
        Due.due("new: count(2), the start and what it leads to", x.count(2), 2);
        Due.due("new: count(3)", x.count(3), 0);
        Due.due("new: count(4), accept", x.count(4), 1);
        Due.due("new: count(5)", x.count(5), 1);
        Due.due("new: count(6)", x.count(6), 0);
        Due.due("new: first(0)", x.first(0), 0);
        Due.due("new: state(0, 0)", x.state(0, 0), 1);
        Due.due("new: state(0, 120)", x.state(0, 120), 1);
        Due.due("new: state(1, 0)", x.state(1, 0), 1);
        Due.due("new: comes(0, 0)", x.comes(0, 0), 0);
        Due.due("new: comes(1, 0)", x.comes(1, 0), 2000);
        Due.due("new: parse(0)", x.parse(0), -1);
        Due.due("new: parsed(0)", x.parsed(0), 0);
        Due.due("new: parsed(1)", x.parsed(1), 0);
        Due.due("new: parsed(2)", x.parsed(2), 0);
        Due.due("new: parsed(3)", x.parsed(3), -1);
        Due.due("new: reduction(0)", x.reduction(0), -1);
        Due.due("new: check()", x.check(), 1);
        Due.due("new: put(1)", x.put(1), -1);
        Due.due("new: close()", x.close(), 0);
        Due.due("new: clear()", x.clear(), 0);
        Due.due("new: drop()", x.drop(), 0);
        TablePacker other = new TablePacker();
        Due.rule(other, 0, 1);
        Due.due("objects share nothing", x.count(0), 0);
    }

    private static void begin() {
        TablePacker x = new TablePacker();
        int[] wrongKinds = {-1, 8, 20, Integer.MIN_VALUE, Integer.MAX_VALUE};
        for (int kind : wrongKinds) {
            Due.due("begin(" + kind + ")", x.begin(kind), -1);
        }
        Due.due("a wrong begin opens nothing", x.close(), 0);
        for (int kind = 0; kind < 8; kind++) {
            Due.due("begin(" + kind + ")", x.begin(kind), kind);
            Due.due("begin when one is open", x.begin(kind), -1);
            Due.due("close", x.close(), 1);
        }
    }

    private static void beginAtMost24() {
        TablePacker x = new TablePacker();
        for (int rule = 0; rule < 24; rule++) {
            Due.due("begin of rule " + rule, x.begin(rule % 8), rule);
            Due.due("put in rule " + rule, x.put(1), 1);
            Due.due("close of rule " + rule, x.close(), 1);
        }
        Due.due("begin when there are 24", x.begin(0), -1);
        Due.due("it opened nothing", x.put(1), -1);
        Due.due("count(0)", x.count(0), 24);
        Due.due("clear", x.clear(), 24);
        Due.due("begin after clear", x.begin(0), 0);
    }

    private static void put() {
        TablePacker x = new TablePacker();
        Due.due("put when none is open", x.put(1), -1);
        x.begin(0);
        int[] wrongSymbols = {0, -1, 14, 15, 19, 28, 100, Integer.MIN_VALUE, Integer.MAX_VALUE};
        for (int symbol : wrongSymbols) {
            Due.due("put(" + symbol + ")", x.put(symbol), -1);
        }
        int[] symbols = {1, 13, 20, 27, 7, 7};
        for (int i = 0; i < symbols.length; i++) {
            Due.due("put(" + symbols[i] + ")", x.put(symbols[i]), i + 1);
            Due.due("put(0) in between", x.put(0), -1);
        }
        Due.due("put of a seventh", x.put(1), -1);
        Due.due("close", x.close(), 1);
        Due.due("put after close", x.put(1), -1);
        Due.due("a row of 6 is told whole: state(0, 101)", x.state(0, 101), 1);
        Due.due("state(1, 113)", x.state(1, 113), 3);
        Due.due("state(3, 120)", x.state(3, 120), 4);
        Due.due("state(4, 127)", x.state(4, 127), 5);
        Due.due("state(5, 107)", x.state(5, 107), 6);
        Due.due("state(6, 107)", x.state(6, 107), 7);
        Due.due("ahead(7, 0, 6)", x.ahead(7, 0, 6), 1);
    }

    private static void close() {
        TablePacker x = new TablePacker();
        Due.due("close when none is open", x.close(), 0);
        x.begin(3);
        Due.due("close of an empty rule", x.close(), 1);
        Due.due("close again", x.close(), 0);
        Due.due("count(0)", x.count(0), 1);
        Due.due("the empty rule is told", x.count(6), 8);
    }

    private static void clear() {
        TablePacker x = Due.sums();
        x.token(5);
        x.token(1);
        Due.due("count(2) before", x.count(2), 12);
        x.begin(0);
        x.put(1);
        Due.due("clear with an open rule", x.clear(), 7);
        Due.due("the open one is gone: put", x.put(1), -1);
        Due.due("the open one is gone: close", x.close(), 0);
        Due.due("count(0)", x.count(0), 0);
        Due.due("tokens stay: count(1)", x.count(1), 2);
        Due.due("count(2)", x.count(2), 2);
        Due.due("first(0)", x.first(0), 0);
        Due.due("clear again", x.clear(), 0);
        x.begin(5);
        Due.due("clear with just an open one", x.clear(), 1);
        Due.rule(x, 0, 9);
        Due.due("new rules: first(0)", x.first(0), 1 << 9);
        Due.due("new rules: count(2)", x.count(2), 3);
    }

    private static void openRulesDoNotCount() {
        TablePacker x = new TablePacker();
        Due.rule(x, 0, 1);
        Due.due("count(2)", x.count(2), 3);
        Due.due("begin", x.begin(0), 1);
        Due.due("open and empty: count(0)", x.count(0), 1);
        Due.due("open and empty: count(6)", x.count(6), 0);
        Due.due("open and empty: state(0, 0)", x.state(0, 0), 2);
        Due.due("put", x.put(2), 1);
        Due.due("open: count(2)", x.count(2), 3);
        Due.due("open: first(0)", x.first(0), 2);
        Due.due("open: state(0, 102)", x.state(0, 102), -1);
        Due.due("open: ahead(0, 1, 0)", x.ahead(0, 1, 0), -1);
        x.token(2);
        Due.due("open: parse(0)", x.parse(0), 1);
        Due.due("close", x.close(), 1);
        Due.due("closed: count(0)", x.count(0), 2);
        Due.due("closed: count(2)", x.count(2), 4);
        Due.due("closed: first(0)", x.first(0), 6);
        Due.due("closed: parse(0)", x.parse(0), 0);
    }
}
