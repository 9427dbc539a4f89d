import java.util.ArrayList;
import java.util.Comparator;
import java.util.HashMap;
import java.util.LinkedHashSet;
import java.util.List;
import java.util.Map;
import java.util.Set;
import java.util.TreeMap;
import java.util.TreeSet;

/** The document's terms, written down once more with the library's sets, without a thought of speed. */
final class Naive {
    record Rule(int kind, List<Integer> symbols) {
    }

    record Item(int rule, int place) {
    }

    record Row(int number, TreeMap<Integer, Integer> entries) {
    }

    final List<Rule> rules;
    final boolean[] empty = new boolean[8];
    final List<TreeSet<Integer>> first = new ArrayList<>();
    final List<Set<Item>> states = new ArrayList<>();
    final List<TreeMap<Integer, Integer>> leads = new ArrayList<>();
    final List<Map<Item, TreeSet<Integer>>> aheads = new ArrayList<>();
    final int[][] comes = new int[100][14];
    final int[] defaults = new int[108];
    final int[] bases = new int[108];
    final List<Row> rows = new ArrayList<>();
    final TreeMap<Integer, int[]> table = new TreeMap<>();
    boolean tooLarge;
    int clashes;

    Naive(List<Rule> rules) {
        this.rules = rules;
        findFirst();
        findStates();
        if (!tooLarge) {
            findAheads();
            findComes();
            findRows();
            seatRows();
        }
    }

    List<Integer> symbolsOf(int rule) {
        return rule == 24 ? List.of(20) : rules.get(rule).symbols();
    }

    private Integer symbolBehind(Item item) {
        List<Integer> symbols = symbolsOf(item.rule());
        return item.place() < symbols.size() ? symbols.get(item.place()) : null;
    }

    private boolean canBeEmpty(List<Integer> row) {
        return row.stream().allMatch(symbol -> symbol >= 20 && empty[symbol - 20]);
    }

    private TreeSet<Integer> firstOf(List<Integer> row) {
        TreeSet<Integer> tokens = new TreeSet<>();
        for (int i = 0; i < row.size() && canBeEmpty(row.subList(0, i)); i++) {
            int symbol = row.get(i);
            if (symbol < 20) {
                tokens.add(symbol);
            } else {
                tokens.addAll(first.get(symbol - 20));
            }
        }
        return tokens;
    }

    private void findFirst() {
        for (int kind = 0; kind < 8; kind++) {
            first.add(new TreeSet<>());
        }
        boolean more = true;
        while (more) {
            more = false;
            for (Rule rule : rules) {
                if (!empty[rule.kind()] && canBeEmpty(rule.symbols())) {
                    empty[rule.kind()] = true;
                    more = true;
                }
                more |= first.get(rule.kind()).addAll(firstOf(rule.symbols()));
            }
        }
    }

    private Set<Item> withRules(Set<Item> core) {
        List<Item> all = new ArrayList<>(core);
        Set<Item> set = new LinkedHashSet<>(core);
        for (int i = 0; i < all.size(); i++) {
            Integer symbol = symbolBehind(all.get(i));
            for (int rule = 0; rule < rules.size(); rule++) {
                if (symbol != null && symbol == 20 + rules.get(rule).kind() && set.add(new Item(rule, 0))) {
                    all.add(new Item(rule, 0));
                }
            }
        }
        return set;
    }

    private void findStates() {
        states.add(withRules(Set.of(new Item(24, 0))));
        for (int q = 0; q < states.size(); q++) {
            TreeMap<Integer, Set<Item>> cores = new TreeMap<>();
            for (Item item : states.get(q)) {
                Integer symbol = symbolBehind(item);
                if (symbol != null) {
                    Item further = new Item(item.rule(), item.place() + 1);
                    cores.computeIfAbsent(symbol, s -> new LinkedHashSet<>()).add(further);
                }
            }
            leads.add(new TreeMap<>());
            for (Map.Entry<Integer, Set<Item>> core : cores.entrySet()) {
                Set<Item> next = withRules(core.getValue());
                if (!states.contains(next)) {
                    states.add(next);
                }
                leads.get(q).put(core.getKey(), states.indexOf(next));
            }
            if (states.size() > 100) {
                tooLarge = true;
                return;
            }
        }
    }

    private void findAheads() {
        for (Set<Item> state : states) {
            Map<Item, TreeSet<Integer>> sets = new HashMap<>();
            for (Item item : state) {
                sets.put(item, new TreeSet<>());
            }
            aheads.add(sets);
        }
        aheads.get(0).get(new Item(24, 0)).add(0);
        boolean more = true;
        while (more) {
            more = false;
            for (int q = 0; q < states.size(); q++) {
                for (Item item : states.get(q)) {
                    more |= spread(q, item);
                }
            }
        }
    }

    private boolean spread(int q, Item item) {
        Integer symbol = symbolBehind(item);
        if (symbol == null) {
            return false;
        }
        TreeSet<Integer> had = new TreeSet<>(aheads.get(q).get(item));
        boolean more = aheads.get(leads.get(q).get(symbol)).get(new Item(item.rule(), item.place() + 1)).addAll(had);
        List<Integer> rest = symbolsOf(item.rule()).subList(item.place() + 1, symbolsOf(item.rule()).size());
        TreeSet<Integer> follows = firstOf(rest);
        if (canBeEmpty(rest)) {
            follows.addAll(had);
        }
        for (int rule = 0; rule < rules.size(); rule++) {
            if (symbol == 20 + rules.get(rule).kind()) {
                more |= aheads.get(q).get(new Item(rule, 0)).addAll(follows);
            }
        }
        return more;
    }

    private void findComes() {
        for (int q = 0; q < states.size(); q++) {
            for (int token = 0; token < 14; token++) {
                List<Integer> all = new ArrayList<>();
                if (leads.get(q).containsKey(token)) {
                    all.add(1000 + leads.get(q).get(token));
                }
                if (token == 0 && states.get(q).contains(new Item(24, 1))) {
                    all.add(2000);
                }
                for (int rule = 0; rule < rules.size(); rule++) {
                    TreeSet<Integer> set = aheads.get(q).get(new Item(rule, symbolsOf(rule).size()));
                    if (set != null && set.contains(token)) {
                        all.add(3000 + rule);
                    }
                }
                comes[q][token] = all.isEmpty() ? 0 : all.get(0);
                clashes += Math.max(0, all.size() - 1);
            }
        }
    }

    /** The value that is most often in a row, the least one of those; -1 if there is none. */
    private static int mostOften(List<Integer> values) {
        return values.stream().distinct().min(Comparator
            .comparingInt((Integer value) -> -(int) values.stream().filter(value::equals).count())
            .thenComparingInt(value -> value)).orElse(-1);
    }

    private void findRows() {
        for (int q = 0; q < states.size(); q++) {
            List<Integer> reduced = new ArrayList<>();
            for (int move : comes[q]) {
                if (move >= 3000) {
                    reduced.add(move - 3000);
                }
            }
            defaults[q] = mostOften(reduced);
            Row row = new Row(q, new TreeMap<>());
            for (int token = 0; token < 14; token++) {
                if (comes[q][token] != 0 && (defaults[q] == -1 || comes[q][token] != 3000 + defaults[q])) {
                    row.entries().put(token, comes[q][token]);
                }
            }
            rows.add(row);
        }
        for (int kind = 0; kind < 8; kind++) {
            List<Integer> reached = new ArrayList<>();
            Row row = new Row(100 + kind, new TreeMap<>());
            for (int q = 0; q < states.size(); q++) {
                if (leads.get(q).containsKey(20 + kind)) {
                    reached.add(leads.get(q).get(20 + kind));
                    row.entries().put(q, leads.get(q).get(20 + kind));
                }
            }
            defaults[100 + kind] = mostOften(reached);
            row.entries().values().removeIf(to -> to == defaults[row.number()]);
            rows.add(row);
        }
    }

    private void seatRows() {
        List<Row> order = new ArrayList<>(rows);
        order.sort(Comparator.comparingInt((Row row) -> -row.entries().size()).thenComparingInt(Row::number));
        for (Row row : order) {
            int base = 0;
            while (!fits(row, base)) {
                base++;
            }
            bases[row.number()] = row.entries().isEmpty() ? -1 : base;
            for (Map.Entry<Integer, Integer> entry : row.entries().entrySet()) {
                table.put(base + entry.getKey(), new int[] {row.number(), entry.getValue()});
            }
        }
    }

    private boolean fits(Row row, int base) {
        return row.entries().keySet().stream().noneMatch(index -> table.containsKey(base + index));
    }

    /** What a parser ends with, and behind it: the token's number, the states on the pile, the rules. */
    List<Integer> parse(boolean packed, List<Integer> tokens) {
        List<Integer> pile = new ArrayList<>(List.of(0));
        List<Integer> reduced = new ArrayList<>();
        int at = 0;
        int end = -1;
        for (int steps = 0; end < 0; steps++) {
            int q = pile.get(pile.size() - 1);
            int move = comes[q][at < tokens.size() ? tokens.get(at) : 0];
            if (packed && move == 0 && defaults[q] >= 0) {
                move = 3000 + defaults[q];
            }
            if (move == 0 || move == 2000) {
                end = move == 0 ? 1 : 0;
            } else if (steps == 2000) {
                end = 2;
            } else if (move < 2000) {
                pile.add(move - 1000);
                at++;
            } else {
                Rule rule = rules.get(move - 3000);
                reduced.add(move - 3000);
                pile.subList(pile.size() - rule.symbols().size(), pile.size()).clear();
                pile.add(leads.get(pile.get(pile.size() - 1)).get(20 + rule.kind()));
            }
        }
        List<Integer> told = new ArrayList<>(List.of(end, at, pile.size()));
        told.addAll(reduced);
        return told;
    }

    static int bits(Iterable<Integer> tokens) {
        int bits = 0;
        for (int token : tokens) {
            bits |= 1 << token;
        }
        return bits;
    }
}
