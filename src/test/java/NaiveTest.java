import java.util.ArrayList;
import java.util.List;

/** All promises over many grammars, of all sizes, against the document's terms written down naively. */
public final class NaiveTest {
    private static final int GRAMMARS = 700;

    private static long seed = 20261115;

    private final List<Naive.Rule> rules;
    private final Naive due;
    private List<Integer> tokens = List.of();
    private TablePacker object;
    private int calls;

    private NaiveTest(List<Naive.Rule> rules) {
        this.rules = rules;
        this.due = new Naive(rules);
    }

    public static void main(String[] args) {
        int large = 0;
        int clashing = 0;
        int tooLong = 0;
        for (int i = 0; i < GRAMMARS; i++) {
            NaiveTest test = new NaiveTest(someRules());
            test.counts();
            if (test.due.tooLarge) {
                large++;
            } else {
                clashing += test.due.clashes > 0 ? 1 : 0;
                test.states();
                test.packed();
                tooLong += test.parses();
            }
        }
        System.out.println(GRAMMARS + " grammars: " + large + " too large, " + clashing + " with clashes; " + tooLong
            + " parses too long");
        Due.due("some of each sort", large > 20 && large < GRAMMARS / 2 && clashing > 50 && tooLong > 0);
        Due.end();
    }

    // A fixed row of numbers, the same in each run.
    private static int some(int bound) {
        seed = seed * 6364136223846793005L + 1442695040888963407L;
        return (int) ((seed >>> 33) % bound);
    }

    // One of eight is large: near 100 states, or beyond.
    private static List<Naive.Rule> someRules() {
        boolean large = some(8) == 0;
        int kinds = 1 + some(8);
        int tokenBound = large ? 8 + some(6) : 1 + some(13);
        int longest = large ? 6 : some(7);
        int shortest = large ? 3 + some(3) : some(3) == 0 ? some(longest + 1) : 0;
        int kindShare = large ? some(50) : some(70);
        int count = large ? 20 + some(5) : 1 + some(24);
        List<Naive.Rule> rules = new ArrayList<>();
        for (int i = 0; i < count; i++) {
            List<Integer> symbols = new ArrayList<>();
            int length = shortest + some(longest - shortest + 1);
            for (int k = 0; k < length; k++) {
                symbols.add(some(100) < kindShare ? 20 + some(kinds) : 1 + some(tokenBound));
            }
            rules.add(new Naive.Rule(i == 0 ? 0 : some(kinds), symbols));
        }
        return rules;
    }

    /** The object to ask next; a new one in time, for an object is used for 512 calls only. */
    private TablePacker next() {
        if (object == null || calls >= 512) {
            object = new TablePacker();
            calls = 0;
            for (Naive.Rule rule : rules) {
                Due.rule(object, rule.kind(), rule.symbols().stream().mapToInt(s -> s).toArray());
                calls += 2 + rule.symbols().size();
            }
            Due.tokens(object, tokens.stream().mapToInt(t -> t).toArray());
            calls += 1 + tokens.size();
        }
        calls++;
        return object;
    }

    private void same(String call, int got, int want) {
        Due.due(got == want ? call : call + " of " + rules, got, want);
    }

    private void counts() {
        int empty = 0;
        for (int kind = 0; kind < 8; kind++) {
            empty |= due.empty[kind] ? 1 << kind : 0;
            same("first(" + kind + ")", next().first(kind), Naive.bits(due.first.get(kind)));
        }
        same("count(0)", next().count(0), rules.size());
        same("count(6)", next().count(6), empty);
        int entries = due.rows.stream().mapToInt(row -> row.entries().size()).sum();
        same("count(2)", next().count(2), due.tooLarge ? -2 : due.states.size());
        same("count(3)", next().count(3), due.tooLarge ? -2 : due.clashes);
        same("count(4)", next().count(4), due.tooLarge ? -2 : entries);
        int length = due.table.isEmpty() ? 0 : due.table.lastKey() + 1;
        same("count(5)", next().count(5), due.tooLarge ? -2 : length);
        same("check()", next().check(), 1);
    }

    private void states() {
        for (int q = 0; q < due.states.size(); q++) {
            same("state(" + q + ", 0)", next().state(q, 0), due.states.get(q).size());
            for (int symbol = 0; symbol < 28; symbol++) {
                int to = due.leads.get(q).getOrDefault(symbol, -1);
                same("state(" + q + ", 100 + " + symbol + ")", next().state(q, 100 + symbol), to);
            }
            for (int token = 0; token < 14; token++) {
                same("comes(" + q + ", " + token + ")", next().comes(q, token), due.comes[q][token]);
            }
            for (int rule = 0; rule < 25; rule++) {
                aheads(q, rule);
            }
        }
    }

    private void aheads(int q, int rule) {
        for (int place = 0; place < 7; place++) {
            var set = due.aheads.get(q).get(new Naive.Item(rule, place));
            int want = set == null ? -1 : Naive.bits(set);
            same("ahead(" + q + ", " + rule + ", " + place + ")", next().ahead(q, rule, place), want);
        }
    }

    private void packed() {
        for (Naive.Row row : due.rows) {
            int r = row.number();
            same("row(" + r + ", 0)", next().row(r, 0), due.defaults[r]);
            same("row(" + r + ", 1)", next().row(r, 1), row.entries().size());
            same("row(" + r + ", 2)", next().row(r, 2), due.bases[r]);
        }
        for (int k = 0; !due.table.isEmpty() && k < due.table.lastKey() + 20; k++) {
            int[] place = due.table.getOrDefault(k, new int[] {-1, -1});
            same("place(" + k + ", 0)", next().place(k, 0), place[0]);
            same("place(" + k + ", 1)", next().place(k, 1), place[1]);
        }
    }

    private int parses() {
        int tooLong = 0;
        for (int i = 0; i < 8; i++) {
            tokens = someTokens();
            object = null;
            for (int which = 0; which < 2; which++) {
                List<Integer> want = due.parse(which == 1, tokens);
                tooLong += want.get(0) == 2 ? 1 : 0;
                TablePacker x = next();
                same("parse(" + which + ") of " + tokens, x.parse(which), want.get(0));
                same("parsed(0)", x.parsed(0), want.size() - 3);
                same("parsed(1)", x.parsed(1), want.get(1));
                same("parsed(2)", x.parsed(2), want.get(2));
                for (int k = 0; k < Math.min(60, want.size() - 3); k++) {
                    same("reduction(" + k + ")", x.reduction(k), want.get(3 + k));
                }
                same("reduction behind all", x.reduction(want.size() - 3), -1);
            }
        }
        return tooLong;
    }

    // Tokens as the plain tables like them, most of the time: else nearly all would end at once.
    private List<Integer> someTokens() {
        List<Integer> row = new ArrayList<>();
        int length = some(30);
        for (int i = 0; i < length; i++) {
            int token = 1 + some(13);
            for (int tries = 0; tries < 20 && !goesOn(row, token); tries++) {
                token = 1 + some(13);
            }
            row.add(token);
        }
        return row;
    }

    private boolean goesOn(List<Integer> row, int token) {
        List<Integer> longer = new ArrayList<>(row);
        longer.add(token);
        return due.parse(false, longer).get(1) == longer.size();
    }
}
