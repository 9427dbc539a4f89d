import java.util.Arrays;

/** Grammars made into tables of a parser that looks one token ahead, plain and packed. */
public final class TablePacker {
    public static final int NONE = -1;
    public static final int FULL = -2;

    private static final int END = 0;
    private static final int TOKENS = 14;
    private static final int KINDS = 8;
    private static final int KIND_SYMBOLS = 20;

    // A symbol's column closes the gap between tokens and kinds: tokens first, then kinds.
    private static final int COLUMNS = TOKENS + KINDS;

    private static final int RULES = 24;
    private static final int LONGEST = 6;
    private static final int PLACES = LONGEST + 1;
    private static final int START = RULES;
    private static final int START_ITEM = START * PLACES;
    private static final int START_DONE = START_ITEM + 1;
    private static final int ITEMS = START_ITEM + 2;

    private static final int STATES = 100;
    private static final int ROWS = STATES + KINDS;

    private static final int ALL_TOKENS = (1 << TOKENS) - 1;
    private static final int CAN_BE_EMPTY = 1 << TOKENS;

    private static final int ERROR = 0;
    private static final int SHIFT = 1000;
    private static final int ACCEPT = 2000;
    private static final int REDUCE = 3000;

    private static final int LEAD_QUESTIONS = 100;

    private final Grammar grammar;
    private final Openings openings;
    private final PlainTable plain;
    private final States states;
    private final Lookahead lookahead;
    private final PackedTable packed;
    private final Parser parser;
    private boolean stale;

    public TablePacker() {
        grammar = new Grammar();
        openings = new Openings(grammar);
        plain = new PlainTable();
        states = new States(grammar, plain);
        lookahead = new Lookahead(grammar, openings, states, plain);
        packed = new PackedTable(plain);
        parser = new Parser(grammar);
        stale = true;
    }

    public int begin(int kind) {
        return grammar.openRule(kind);
    }

    public int put(int symbol) {
        return grammar.extendRule(columnOf(symbol));
    }

    public int close() {
        if (!grammar.closeRule()) {
            return 0;
        }
        stale = true;
        return 1;
    }

    public int clear() {
        stale = true;
        return grammar.forgetRules();
    }

    public int token(int t) {
        return parser.addToken(t);
    }

    public int drop() {
        return parser.forgetTokens();
    }

    public int count(int what) {
        refresh();
        switch (what) {
            case 0:
                return grammar.rules();
            case 1:
                return parser.tokens();
            case 6:
                return openings.emptyKinds();
            default:
                return countOfTables(what);
        }
    }

    public int first(int kind) {
        refresh();
        return isKind(kind) ? openings.ofKind(kind) & ALL_TOKENS : NONE;
    }

    public int state(int q, int what) {
        refresh();
        if (states.tooLarge()) {
            return FULL;
        }
        if (!states.isState(q)) {
            return NONE;
        }
        if (what == 0) {
            return states.itemsOf(q);
        }
        int column = what < LEAD_QUESTIONS ? NONE : columnOf(what - LEAD_QUESTIONS);
        return column == NONE ? NONE : plain.leadAt(q, column);
    }

    public int ahead(int q, int rule, int place) {
        refresh();
        if (states.tooLarge()) {
            return FULL;
        }
        int item = itemOf(rule, place);
        if (item == NONE || !states.isState(q) || !states.holds(q, item)) {
            return NONE;
        }
        return lookahead.setOf(q, item);
    }

    public int comes(int q, int token) {
        refresh();
        if (states.tooLarge()) {
            return FULL;
        }
        return states.isState(q) && isToken(token) ? plain.moveOn(q, token) : NONE;
    }

    public int row(int r, int what) {
        refresh();
        if (states.tooLarge()) {
            return FULL;
        }
        if (!states.isState(r) && !isKindRow(r)) {
            return NONE;
        }
        switch (what) {
            case 0:
                return packed.defaultOf(r);
            case 1:
                return packed.entriesOf(r);
            case 2:
                return packed.baseOf(r);
            default:
                return NONE;
        }
    }

    public int place(int k, int what) {
        refresh();
        if (states.tooLarge()) {
            return FULL;
        }
        switch (what) {
            case 0:
                return packed.ownerAt(k);
            case 1:
                return packed.entryAt(k);
            default:
                return NONE;
        }
    }

    public int parse(int which) {
        if (which < 0 || which > 1 || !grammar.hasRuleOf(0)) {
            return NONE;
        }
        refresh();
        if (states.tooLarge()) {
            return FULL;
        }
        Tables tables = which == 0 ? plain : packed;
        return parser.run(tables);
    }

    public int parsed(int what) {
        switch (what) {
            case 0:
                return parser.reductions();
            case 1:
                return parser.endedAt();
            case 2:
                return parser.pileHeight();
            default:
                return NONE;
        }
    }

    public int reduction(int k) {
        return parser.reducedBy(k);
    }

    public int check() {
        refresh();
        // Without tables there is no row that could be wrong.
        return states.tooLarge() || packed.isSound() ? 1 : 0;
    }

    private int countOfTables(int what) {
        if (what < 2 || what > 5) {
            return NONE;
        }
        if (states.tooLarge()) {
            return FULL;
        }
        switch (what) {
            case 2:
                return states.size();
            case 3:
                return plain.clashes();
            case 4:
                return packed.entries();
            default:
                return packed.length();
        }
    }

    // Tables are made when they are asked for, not with each rule: most rules are followed by more.
    private void refresh() {
        if (!stale) {
            return;
        }
        stale = false;
        openings.find();
        states.find();
        if (states.tooLarge()) {
            return;
        }
        lookahead.find();
        plain.addReductions(grammar, states, lookahead);
        packed.pack(states.size());
    }

    private static boolean isToken(int token) {
        return token >= 0 && token < TOKENS;
    }

    private static boolean isKind(int kind) {
        return kind >= 0 && kind < KINDS;
    }

    private static boolean isKindRow(int row) {
        return row >= STATES && row < ROWS;
    }

    private static int columnOf(int symbol) {
        if (isToken(symbol)) {
            return symbol;
        }
        if (symbol < KIND_SYMBOLS || symbol >= KIND_SYMBOLS + KINDS) {
            return NONE;
        }
        return TOKENS + symbol - KIND_SYMBOLS;
    }

    private static int itemOf(int rule, int place) {
        if (rule < 0 || rule > START || place < 0 || place >= PLACES) {
            return NONE;
        }
        int item = rule * PLACES + place;
        return item < ITEMS ? item : NONE;
    }

    /** The rules; an item is numbered by its rule and place, and the start stands behind all rules. */
    private static final class Grammar {
        private final int[] kinds = new int[RULES];
        private final int[] lengths = new int[RULES + 1];
        private final int[] columns = new int[ITEMS];
        private int closed;
        private boolean open;

        Grammar() {
            lengths[START] = 1;
            columns[START_ITEM] = TOKENS;
            columns[START_DONE] = NONE;
        }

        int openRule(int kind) {
            if (open || !isKind(kind) || closed >= RULES) {
                return NONE;
            }
            open = true;
            kinds[closed] = kind;
            lengths[closed] = 0;
            columns[closed * PLACES] = NONE;
            return closed;
        }

        int extendRule(int column) {
            if (!open || column == NONE || column == END || lengths[closed] >= LONGEST) {
                return NONE;
            }
            int item = closed * PLACES + lengths[closed];
            columns[item] = column;
            columns[item + 1] = NONE;
            lengths[closed]++;
            return lengths[closed];
        }

        boolean closeRule() {
            if (!open) {
                return false;
            }
            open = false;
            closed++;
            return true;
        }

        int forgetRules() {
            int all = open ? closed + 1 : closed;
            open = false;
            closed = 0;
            return all;
        }

        int rules() {
            return closed;
        }

        int kindOf(int rule) {
            return kinds[rule];
        }

        int lengthOf(int rule) {
            return lengths[rule];
        }

        /** The column of the symbol that an item stands before; NONE behind all. */
        int columnAt(int item) {
            return columns[item];
        }

        boolean hasRuleOf(int kind) {
            for (int rule = 0; rule < closed; rule++) {
                if (kinds[rule] == kind) {
                    return true;
                }
            }
            return false;
        }
    }

    /** What kinds and rows can begin with: tokens by bits, and CAN_BE_EMPTY. */
    private static final class Openings {
        // Each pass but the last adds a bit to some kind.
        private static final int PASSES = KINDS * (TOKENS + 1) + 1;

        private final Grammar grammar;
        private final int[] ofKinds = new int[KINDS];
        private final int[] ofRests = new int[ITEMS];

        Openings(Grammar grammar) {
            this.grammar = grammar;
        }

        void find() {
            Arrays.fill(ofKinds, 0);
            boolean more = true;
            for (int pass = 0; more && pass < PASSES; pass++) {
                more = widenKinds();
            }
            for (int rule = 0; rule < grammar.rules(); rule++) {
                findRests(rule);
            }
            findRests(START);
        }

        int ofKind(int kind) {
            return ofKinds[kind];
        }

        /** What the row behind the symbol that an item stands before can begin with. */
        int ofRest(int item) {
            return ofRests[item];
        }

        int emptyKinds() {
            int bits = 0;
            for (int kind = 0; kind < KINDS; kind++) {
                if ((ofKinds[kind] & CAN_BE_EMPTY) != 0) {
                    bits |= 1 << kind;
                }
            }
            return bits;
        }

        private boolean widenKinds() {
            boolean wider = false;
            for (int rule = 0; rule < grammar.rules(); rule++) {
                int kind = grammar.kindOf(rule);
                int joined = ofKinds[kind] | ofRow(rule, 0);
                wider = wider || joined != ofKinds[kind];
                ofKinds[kind] = joined;
            }
            return wider;
        }

        private void findRests(int rule) {
            for (int place = 0; place < grammar.lengthOf(rule); place++) {
                ofRests[rule * PLACES + place] = ofRow(rule, place + 1);
            }
        }

        private int ofRow(int rule, int from) {
            int bits = 0;
            for (int place = from; place < grammar.lengthOf(rule); place++) {
                int column = grammar.columnAt(rule * PLACES + place);
                int opening = column < TOKENS ? 1 << column : ofKinds[column - TOKENS];
                bits |= opening & ALL_TOKENS;
                if ((opening & CAN_BE_EMPTY) == 0) {
                    return bits;
                }
            }
            return bits | CAN_BE_EMPTY;
        }
    }

    /** The sets of items, as bits in three words each. */
    private static final class States {
        private static final int WORDS = 3;
        private static final int WORD_BITS = 64;

        private final Grammar grammar;
        private final PlainTable plain;
        private final long[] sets = new long[STATES * WORDS];
        private final long[] standingBefore = new long[COLUMNS * WORDS];
        private final long[] broughtByKind = new long[KINDS * WORDS];
        private final long[] candidate = new long[WORDS];
        private int size;
        private boolean tooLarge;

        States(Grammar grammar, PlainTable plain) {
            this.grammar = grammar;
            this.plain = plain;
        }

        void find() {
            markItems();
            bringRules();
            plain.forgetMoves();
            size = 0;
            tooLarge = false;
            Arrays.fill(candidate, 0L);
            mark(candidate, 0, START_ITEM);
            complete();
            numberOfCandidate();
            for (int q = 0; q < STATES && q < size && !tooLarge; q++) {
                leadOn(q);
            }
        }

        boolean tooLarge() {
            return tooLarge;
        }

        int size() {
            return size;
        }

        boolean isState(int q) {
            return q >= 0 && q < size;
        }

        boolean holds(int q, int item) {
            return (sets[q * WORDS + item / WORD_BITS] >>> item % WORD_BITS & 1L) != 0;
        }

        int itemsOf(int q) {
            int items = 0;
            for (int word = 0; word < WORDS; word++) {
                items += Long.bitCount(sets[q * WORDS + word]);
            }
            return items;
        }

        private static void mark(long[] rows, int row, int item) {
            rows[row * WORDS + item / WORD_BITS] |= 1L << item % WORD_BITS;
        }

        private void markItems() {
            Arrays.fill(standingBefore, 0L);
            Arrays.fill(broughtByKind, 0L);
            mark(standingBefore, grammar.columnAt(START_ITEM), START_ITEM);
            for (int rule = 0; rule < grammar.rules(); rule++) {
                int item = rule * PLACES;
                mark(broughtByKind, grammar.kindOf(rule), item);
                for (int place = 0; place < grammar.lengthOf(rule); place++) {
                    mark(standingBefore, grammar.columnAt(item + place), item + place);
                }
            }
        }

        // A kind brings the rules of the kinds that its rules begin with too; KINDS passes reach all.
        private void bringRules() {
            for (int pass = 0; pass < KINDS; pass++) {
                for (int rule = 0; rule < grammar.rules(); rule++) {
                    int column = grammar.columnAt(rule * PLACES);
                    if (column >= TOKENS) {
                        bringAlong(grammar.kindOf(rule), column - TOKENS);
                    }
                }
            }
        }

        private void bringAlong(int kind, int other) {
            for (int word = 0; word < WORDS; word++) {
                broughtByKind[kind * WORDS + word] |= broughtByKind[other * WORDS + word];
            }
        }

        private void leadOn(int q) {
            for (int column = 0; column < COLUMNS && !tooLarge; column++) {
                if (step(q, column)) {
                    complete();
                    int to = numberOfCandidate();
                    if (to == NONE) {
                        tooLarge = true;
                    } else {
                        plain.addLead(q, column, to);
                    }
                }
            }
        }

        /** The candidate becomes the items before a column, one place further; whether there are any. */
        private boolean step(int q, int column) {
            long carry = 0;
            boolean any = false;
            for (int word = 0; word < WORDS; word++) {
                long standing = sets[q * WORDS + word] & standingBefore[column * WORDS + word];
                candidate[word] = standing << 1 | carry;
                carry = standing >>> WORD_BITS - 1;
                any = any || standing != 0;
            }
            return any;
        }

        private void complete() {
            for (int kind = 0; kind < KINDS; kind++) {
                if (candidateStandsBefore(TOKENS + kind)) {
                    for (int word = 0; word < WORDS; word++) {
                        candidate[word] |= broughtByKind[kind * WORDS + word];
                    }
                }
            }
        }

        private boolean candidateStandsBefore(int column) {
            for (int word = 0; word < WORDS; word++) {
                if ((candidate[word] & standingBefore[column * WORDS + word]) != 0) {
                    return true;
                }
            }
            return false;
        }

        /** The candidate's number, a new one if it is a new state; NONE when there is no room for it. */
        private int numberOfCandidate() {
            for (int q = 0; q < size; q++) {
                if (isCandidate(q)) {
                    return q;
                }
            }
            if (size >= STATES) {
                return NONE;
            }
            System.arraycopy(candidate, 0, sets, size * WORDS, WORDS);
            size++;
            return size - 1;
        }

        private boolean isCandidate(int q) {
            for (int word = 0; word < WORDS; word++) {
                if (sets[q * WORDS + word] != candidate[word]) {
                    return false;
                }
            }
            return true;
        }
    }

    /** The tokens that items look ahead for. */
    private static final class Lookahead {
        // Four items' sets share a long: a set for each item would be the most room of all.
        private static final int SHARE = 4;
        private static final int SHARE_BITS = 16;
        private static final int LONGS = (ITEMS + SHARE - 1) / SHARE;

        // Each round but the last adds a token to the set of an item in a state.
        private static final int ROUNDS = STATES * ITEMS * TOKENS + 2;

        private final Grammar grammar;
        private final Openings openings;
        private final States states;
        private final PlainTable plain;
        private final long[] sets = new long[STATES * LONGS];
        private final boolean[] due = new boolean[STATES];

        Lookahead(Grammar grammar, Openings openings, States states, PlainTable plain) {
            this.grammar = grammar;
            this.openings = openings;
            this.states = states;
            this.plain = plain;
        }

        void find() {
            Arrays.fill(sets, 0L);
            for (int q = 0; q < states.size(); q++) {
                due[q] = true;
            }
            join(0, START_ITEM, 1 << END);
            boolean more = true;
            for (int round = 0; more && round < ROUNDS; round++) {
                more = false;
                for (int q = 0; q < states.size(); q++) {
                    if (due[q]) {
                        due[q] = false;
                        more = true;
                        spreadState(q);
                    }
                }
            }
        }

        int setOf(int q, int item) {
            return (int) (sets[q * LONGS + item / SHARE] >>> item % SHARE * SHARE_BITS) & ALL_TOKENS;
        }

        private void join(int q, int item, int tokens) {
            int at = q * LONGS + item / SHARE;
            long joined = sets[at] | (long) tokens << item % SHARE * SHARE_BITS;
            if (joined != sets[at]) {
                sets[at] = joined;
                due[q] = true;
            }
        }

        // Rules that are not closed have no items in states, so the start can be told as the last rule.
        private void spreadState(int q) {
            for (int rule = 0; rule <= START; rule++) {
                for (int place = 0; place < grammar.lengthOf(rule); place++) {
                    int item = rule * PLACES + place;
                    if (states.holds(q, item)) {
                        spreadItem(q, item);
                    }
                }
            }
        }

        private void spreadItem(int q, int item) {
            int column = grammar.columnAt(item);
            int tokens = setOf(q, item);
            int to = plain.leadAt(q, column);
            if (to != NONE) {
                join(to, item + 1, tokens);
            }
            if (column >= TOKENS) {
                int rest = openings.ofRest(item);
                int inherited = (rest & CAN_BE_EMPTY) != 0 ? tokens : 0;
                joinRulesOf(q, column - TOKENS, rest & ALL_TOKENS | inherited);
            }
        }

        private void joinRulesOf(int q, int kind, int tokens) {
            for (int rule = 0; rule < grammar.rules(); rule++) {
                if (grammar.kindOf(rule) == kind) {
                    join(q, rule * PLACES, tokens);
                }
            }
        }
    }

    /** What a parser reads: plain or packed. */
    private abstract static class Tables {
        abstract int moveOn(int q, int token);

        abstract int leadOf(int q, int kind);
    }

    /** What comes in each state, written out. */
    private static final class PlainTable extends Tables {
        private final int[] moves = new int[STATES * COLUMNS];
        private int clashes;

        void forgetMoves() {
            Arrays.fill(moves, ERROR);
            clashes = 0;
        }

        void addLead(int q, int column, int to) {
            moves[q * COLUMNS + column] = SHIFT + to;
        }

        // Shifts stand already, accept is set first, rules go up: so what stands goes before what comes later.
        void addReductions(Grammar grammar, States states, Lookahead lookahead) {
            for (int q = 0; q < states.size(); q++) {
                if (states.holds(q, START_DONE)) {
                    moves[q * COLUMNS + END] = ACCEPT;
                }
                for (int rule = 0; rule < grammar.rules(); rule++) {
                    int item = rule * PLACES + grammar.lengthOf(rule);
                    if (states.holds(q, item)) {
                        addReduction(q, rule, lookahead.setOf(q, item));
                    }
                }
            }
        }

        int clashes() {
            return clashes;
        }

        int leadAt(int q, int column) {
            int move = moves[q * COLUMNS + column];
            return move >= SHIFT && move < ACCEPT ? move - SHIFT : NONE;
        }

        int moveOn(int q, int token) {
            return moves[q * COLUMNS + token];
        }

        int leadOf(int q, int kind) {
            return leadAt(q, TOKENS + kind);
        }

        private void addReduction(int q, int rule, int tokens) {
            for (int token = 0; token < TOKENS; token++) {
                if ((tokens >>> token & 1) != 0) {
                    int at = q * COLUMNS + token;
                    if (moves[at] == ERROR) {
                        moves[at] = REDUCE + rule;
                    } else {
                        clashes++;
                    }
                }
            }
        }
    }

    /** The same in one row of places, which rows of states and kinds share. */
    private static final class PackedTable extends Tables {
        // A base is never behind the table's end, so a row makes it longer by its own width at most.
        private static final int ROOM = STATES * TOKENS + KINDS * STATES;
        private static final int FREE = -1;
        private static final int ENTRY_BITS = 12;
        private static final int ENTRY_MASK = (1 << ENTRY_BITS) - 1;

        private final PlainTable plain;
        private final int[] defaults = new int[ROWS];
        private final int[] counts = new int[ROWS];
        private final int[] bases = new int[ROWS];
        // A row's number and its entry share an element.
        private final int[] places = new int[ROOM];
        // How often a choice is met, while a default is sought; then the indexes of a row's entries.
        private final int[] scratch = new int[STATES];
        private int size;
        private int entries;
        private int length;

        PackedTable(PlainTable plain) {
            this.plain = plain;
        }

        void pack(int stateCount) {
            size = stateCount;
            entries = 0;
            length = 0;
            Arrays.fill(places, FREE);
            Arrays.fill(bases, NONE);
            int most = 0;
            for (int row = 0; row < ROWS; row++) {
                defaults[row] = mostCommon(row);
                counts[row] = findSpots(row);
                entries += counts[row];
                most = Math.max(most, counts[row]);
            }
            for (int count = most; count > 0; count--) {
                seatRowsWith(count);
            }
        }

        int entries() {
            return entries;
        }

        int length() {
            return length;
        }

        int defaultOf(int row) {
            return defaults[row];
        }

        int entriesOf(int row) {
            return counts[row];
        }

        int baseOf(int row) {
            return bases[row];
        }

        int ownerAt(int k) {
            return isOwned(k) ? places[k] >> ENTRY_BITS : NONE;
        }

        int entryAt(int k) {
            return isOwned(k) ? places[k] & ENTRY_MASK : NONE;
        }

        int moveOn(int q, int token) {
            int entry = lookUp(q, token);
            return entry != NONE ? entry : moveByDefault(q);
        }

        int leadOf(int q, int kind) {
            int entry = lookUp(STATES + kind, q);
            return entry != NONE ? entry : defaults[STATES + kind];
        }

        // A place has one owner only: were it shared, one of its rows would not find its entry.
        boolean isSound() {
            for (int row = 0; row < ROWS; row++) {
                int width = widthOf(row);
                for (int index = 0; index < width; index++) {
                    if (lookUp(row, index) != entryOf(row, index)) {
                        return false;
                    }
                }
            }
            return true;
        }

        private boolean isOwned(int k) {
            return k >= 0 && k < length && places[k] != FREE;
        }

        private int lookUp(int row, int index) {
            int at = bases[row] + index;
            boolean found = bases[row] != NONE && isOwned(at) && places[at] >> ENTRY_BITS == row;
            return found ? places[at] & ENTRY_MASK : NONE;
        }

        private int moveByDefault(int q) {
            return defaults[q] == NONE ? ERROR : REDUCE + defaults[q];
        }

        private static boolean isStateRow(int row) {
            return row < STATES;
        }

        private int widthOf(int row) {
            if (isStateRow(row)) {
                return row < size ? TOKENS : 0;
            }
            return size;
        }

        /** What the row's default could be at an index: a rule, or the state to which a kind leads. */
        private int choiceAt(int row, int index) {
            if (!isStateRow(row)) {
                return plain.leadAt(index, TOKENS + row - STATES);
            }
            int move = plain.moveOn(row, index);
            return move >= REDUCE ? move - REDUCE : NONE;
        }

        private int mostCommon(int row) {
            Arrays.fill(scratch, 0);
            int width = widthOf(row);
            for (int index = 0; index < width; index++) {
                int choice = choiceAt(row, index);
                if (choice != NONE) {
                    scratch[choice]++;
                }
            }
            int best = 0;
            for (int choice = 1; choice < STATES; choice++) {
                if (scratch[choice] > scratch[best]) {
                    best = choice;
                }
            }
            return scratch[best] > 0 ? best : NONE;
        }

        private int entryOf(int row, int index) {
            if (!isStateRow(row)) {
                int to = plain.leadAt(index, TOKENS + row - STATES);
                return to == defaults[row] ? NONE : to;
            }
            int move = plain.moveOn(row, index);
            return move == ERROR || move == moveByDefault(row) ? NONE : move;
        }

        private int findSpots(int row) {
            int found = 0;
            int width = widthOf(row);
            for (int index = 0; index < width; index++) {
                if (entryOf(row, index) != NONE) {
                    scratch[found] = index;
                    found++;
                }
            }
            return found;
        }

        // Rows of states have lesser numbers than rows of kinds, so going up keeps the order of equals.
        private void seatRowsWith(int count) {
            for (int row = 0; row < ROWS; row++) {
                if (counts[row] == count) {
                    findSpots(row);
                    seat(row, leastBase(count));
                }
            }
        }

        private int leastBase(int count) {
            for (int base = 0; base < length; base++) {
                if (allFree(base, count)) {
                    return base;
                }
            }
            return length;
        }

        private boolean allFree(int base, int count) {
            for (int i = 0; i < count; i++) {
                if (places[base + scratch[i]] != FREE) {
                    return false;
                }
            }
            return true;
        }

        private void seat(int row, int base) {
            bases[row] = base;
            for (int i = 0; i < counts[row]; i++) {
                int at = base + scratch[i];
                places[at] = row << ENTRY_BITS | entryOf(row, scratch[i]);
                length = Math.max(length, at + 1);
            }
        }
    }

    /** The tokens, and the latest run over them. */
    private static final class Parser {
        private static final int TOKEN_ROOM = 100;
        private static final int STEPS = 2000;
        private static final int ACCEPTED = 0;
        private static final int FAILED = 1;
        private static final int TOO_LONG = 2;

        private final Grammar grammar;
        private final int[] tokens = new int[TOKEN_ROOM];
        // Each step puts one state on at most.
        private final int[] pile = new int[STEPS + 1];
        private final int[] reducedBy = new int[STEPS];
        private int tokenCount;
        private int at;
        private int height;
        private int reductions;

        Parser(Grammar grammar) {
            this.grammar = grammar;
        }

        int addToken(int token) {
            if (token == END || !isToken(token) || tokenCount >= TOKEN_ROOM) {
                return NONE;
            }
            tokens[tokenCount] = token;
            tokenCount++;
            return tokenCount;
        }

        int forgetTokens() {
            int all = tokenCount;
            tokenCount = 0;
            return all;
        }

        int tokens() {
            return tokenCount;
        }

        int reductions() {
            return reductions;
        }

        int endedAt() {
            return at;
        }

        int pileHeight() {
            return height;
        }

        int reducedBy(int k) {
            return k >= 0 && k < reductions ? reducedBy[k] : NONE;
        }

        int run(Tables tables) {
            at = 0;
            reductions = 0;
            height = 1;
            pile[0] = 0;
            for (int step = 0; step <= STEPS; step++) {
                int move = tables.moveOn(pile[height - 1], nextToken());
                if (move == ACCEPT) {
                    return ACCEPTED;
                }
                if (move == ERROR) {
                    return FAILED;
                }
                if (step < STEPS && !go(move, tables)) {
                    return FAILED;
                }
            }
            return TOO_LONG;
        }

        private int nextToken() {
            return at < tokenCount ? tokens[at] : END;
        }

        private boolean go(int move, Tables tables) {
            if (move >= REDUCE) {
                return reduce(move - REDUCE, tables);
            }
            at++;
            putOn(move - SHIFT);
            return true;
        }

        // The tables never tell a reduction that the pile has no room for: false only keeps indexes safe.
        private boolean reduce(int rule, Tables tables) {
            int left = height - grammar.lengthOf(rule);
            int to = left < 1 ? NONE : tables.leadOf(pile[left - 1], grammar.kindOf(rule));
            if (to == NONE) {
                return false;
            }
            reducedBy[reductions] = rule;
            reductions++;
            height = left;
            putOn(to);
            return true;
        }

        private void putOn(int q) {
            pile[height] = q;
            height++;
        }
    }
}
