/** Long runs of calls, right ones and wrong ones mixed, against the document's promises written down naively. */
public final class RunsTest {
    private static final int RUNS = 240;
    private static final int CALLS = 512;
    private static final int[] EDGES = {Integer.MIN_VALUE, -100, -20, -7, -2, -1, 0, 1, 2, 3, 4, 5, 6, 7, 8, 12, 13, 14,
        19, 20, 21, 27, 28, 99, 100, 101, 107, 108, 113, 114, 120, 127, 128, 1999, 2000, 2199, 2200, Integer.MAX_VALUE};

    private static long seed = 20261116;

    private final TablePacker object = new TablePacker();
    private final Model model = new Model();
    // What sort of grammars the run tells: how many kinds and tokens, how many of 10 symbols are kinds.
    private final boolean large = some(3) == 0;
    private final int kinds = 1 + some(large ? 2 : 8);
    private final int tokens = large ? 13 : 1 + some(13);
    private final int kindShare = some(large ? 3 : 8);
    private final StringBuilder told = new StringBuilder();
    private int calls;

    public static void main(String[] args) {
        int full = 0;
        for (int i = 0; i < RUNS; i++) {
            RunsTest run = new RunsTest();
            boolean alike = !run.large || run.tellLongRules();
            while (alike && run.calls < CALLS) {
                alike = run.ask();
                full += run.model.count(2) == -2 ? 1 : 0;
            }
        }
        Due.due("some grammars are too large: " + full + " calls", full > 1000 && full < RUNS * CALLS / 4);
        Due.end();
    }

    private static int some(int bound) {
        seed = seed * 6364136223846793005L + 1442695040888963407L;
        return (int) ((seed >>> 33) % bound);
    }

    private static int edge() {
        return EDGES[some(EDGES.length)];
    }

    /** Mostly below a bound, at times an edge. */
    private static int mostly(int bound) {
        return some(12) == 0 ? edge() : some(bound);
    }

    private int symbol() {
        if (some(25) == 0) {
            return edge();
        }
        return some(10) < kindShare ? 20 + some(kinds) : 1 + some(tokens);
    }

    /** Rules that are nearly enough for more than 100 states, or just enough. */
    private boolean tellLongRules() {
        boolean alike = true;
        int rules = 16 + some(8);
        for (int rule = 0; alike && rule < rules; rule++) {
            alike = begin(some(kinds));
            for (int i = 0; alike && i < 6; i++) {
                alike = put(symbol());
            }
            alike = alike && close();
        }
        return alike;
    }

    /** One call more of both; false when they differ, for then all that follows would. */
    private boolean ask() {
        int sort = some(100);
        if (sort < 30) {
            return changeRules();
        }
        if (sort < 75) {
            return some(2) == 0 ? changeTokens() : askOne();
        }
        return askMore();
    }

    private boolean changeRules() {
        int sort = some(100);
        if (sort < 2) {
            return same("clear()", object.clear(), model.clear());
        }
        if (sort < 25) {
            return begin(some(12) == 0 ? edge() : some(kinds));
        }
        return sort < 55 ? close() : put(symbol());
    }

    private boolean begin(int kind) {
        return same("begin(" + kind + ")", object.begin(kind), model.begin(kind));
    }

    private boolean put(int symbol) {
        return same("put(" + symbol + ")", object.put(symbol), model.put(symbol));
    }

    private boolean close() {
        return same("close()", object.close(), model.close());
    }

    private boolean changeTokens() {
        if (some(25) == 0) {
            return same("drop()", object.drop(), model.drop());
        }
        int token = some(12) == 0 ? edge() : 1 + some(tokens);
        return same("token(" + token + ")", object.token(token), model.token(token));
    }

    private boolean askOne() {
        int a = some(3) == 0 ? edge() : some(8);
        int which = mostly(2);
        int k = mostly(10);
        switch (some(6)) {
            case 0:
                return same("count(" + a + ")", object.count(a), model.count(a));
            case 1:
                return same("first(" + a + ")", object.first(a), model.first(a));
            case 2:
                return same("parse(" + which + ")", object.parse(which), model.parse(which));
            case 3:
                return same("parsed(" + a + ")", object.parsed(a), model.parsed(a));
            case 4:
                return same("reduction(" + k + ")", object.reduction(k), model.reduction(k));
            default:
                return same("check()", object.check(), model.check());
        }
    }

    private boolean askMore() {
        int states = Math.max(1, model.count(2));
        int q = mostly(states + 1);
        int what = some(3) == 0 ? 0 : mostly(30) + 100;
        int token = mostly(14);
        int rule = some(3) == 0 ? 24 : mostly(24);
        int place = mostly(4);
        int r = some(3) == 0 ? 100 + mostly(8) : q;
        int k = mostly(Math.max(1, model.count(5)) + 2);
        int three = mostly(3);
        switch (some(5)) {
            case 0:
                return same("state(" + q + ", " + what + ")", object.state(q, what), model.state(q, what));
            case 1:
                return same("ahead(" + q + ", " + rule + ", " + place + ")", object.ahead(q, rule, place),
                    model.ahead(q, rule, place));
            case 2:
                return same("comes(" + q + ", " + token + ")", object.comes(q, token), model.comes(q, token));
            case 3:
                return same("row(" + r + ", " + three + ")", object.row(r, three), model.row(r, three));
            default:
                return same("place(" + k + ", " + three + ")", object.place(k, three), model.place(k, three));
        }
    }

    private boolean same(String call, int got, int want) {
        Due.due(got == want ? call : told + call, got, want);
        told.append(call).append(' ');
        calls++;
        return got == want;
    }
}
