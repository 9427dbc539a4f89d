import java.util.ArrayList;
import java.util.List;

/** What each call answers by the document's promises, over the tables of Naive. */
final class Model {
    private static final int NONE = -1;
    private static final int FULL = -2;

    private final List<Naive.Rule> rules = new ArrayList<>();
    private final List<Integer> tokens = new ArrayList<>();
    private Naive.Rule open;
    private Naive naive;
    private List<Integer> latest;

    private Naive tables() {
        if (naive == null) {
            naive = new Naive(List.copyOf(rules));
        }
        return naive;
    }

    int begin(int kind) {
        if (open != null || kind < 0 || kind > 7 || rules.size() == 24) {
            return NONE;
        }
        open = new Naive.Rule(kind, new ArrayList<>());
        return rules.size();
    }

    int put(int symbol) {
        boolean known = symbol > 0 && symbol < 14 || symbol >= 20 && symbol < 28;
        if (open == null || !known || open.symbols().size() == 6) {
            return NONE;
        }
        open.symbols().add(symbol);
        return open.symbols().size();
    }

    int close() {
        if (open == null) {
            return 0;
        }
        rules.add(open);
        open = null;
        naive = null;
        return 1;
    }

    int clear() {
        int all = rules.size() + (open == null ? 0 : 1);
        rules.clear();
        open = null;
        naive = null;
        return all;
    }

    int token(int t) {
        if (t < 1 || t > 13 || tokens.size() == 100) {
            return NONE;
        }
        tokens.add(t);
        return tokens.size();
    }

    int drop() {
        int all = tokens.size();
        tokens.clear();
        return all;
    }

    int count(int what) {
        if (what < 0 || what > 6) {
            return NONE;
        }
        if (what >= 2 && what <= 5 && tables().tooLarge) {
            return FULL;
        }
        switch (what) {
            case 0:
                return rules.size();
            case 1:
                return tokens.size();
            case 2:
                return tables().states.size();
            case 3:
                return tables().clashes;
            case 4:
                return tables().table.size();
            case 5:
                return tables().table.lastKey() + 1;
            default:
                return emptyKinds();
        }
    }

    private int emptyKinds() {
        int bits = 0;
        for (int kind = 0; kind < 8; kind++) {
            bits |= tables().empty[kind] ? 1 << kind : 0;
        }
        return bits;
    }

    int first(int kind) {
        return kind < 0 || kind > 7 ? NONE : Naive.bits(tables().first.get(kind));
    }

    private boolean isState(int q) {
        return q >= 0 && q < tables().states.size();
    }

    int state(int q, int what) {
        if (tables().tooLarge) {
            return FULL;
        }
        if (!isState(q)) {
            return NONE;
        }
        return what == 0 ? tables().states.get(q).size() : tables().leads.get(q).getOrDefault(what - 100, NONE);
    }

    int ahead(int q, int rule, int place) {
        if (tables().tooLarge) {
            return FULL;
        }
        Naive.Item item = new Naive.Item(rule, place);
        return isState(q) && tables().states.get(q).contains(item) ? Naive.bits(tables().aheads.get(q).get(item)) : NONE;
    }

    int comes(int q, int token) {
        if (tables().tooLarge) {
            return FULL;
        }
        return isState(q) && token >= 0 && token < 14 ? tables().comes[q][token] : NONE;
    }

    int row(int r, int what) {
        if (tables().tooLarge) {
            return FULL;
        }
        for (Naive.Row row : tables().rows) {
            if (row.number() == r && what >= 0 && what < 3) {
                int[] told = {tables().defaults[r], row.entries().size(), tables().bases[r]};
                return told[what];
            }
        }
        return NONE;
    }

    int place(int k, int what) {
        if (tables().tooLarge) {
            return FULL;
        }
        int[] place = tables().table.get(k);
        return place == null || what < 0 || what > 1 ? NONE : place[what];
    }

    int parse(int which) {
        if (which < 0 || which > 1 || rules.stream().noneMatch(rule -> rule.kind() == 0)) {
            return NONE;
        }
        if (tables().tooLarge) {
            return FULL;
        }
        latest = tables().parse(which == 1, tokens);
        return latest.get(0);
    }

    int parsed(int what) {
        if (what < 0 || what > 2) {
            return NONE;
        }
        if (latest == null) {
            return 0;
        }
        return what == 0 ? latest.size() - 3 : latest.get(what);
    }

    int reduction(int k) {
        return latest == null || k < 0 || k >= latest.size() - 3 ? NONE : latest.get(k + 3);
    }

    int check() {
        return 1;
    }
}
