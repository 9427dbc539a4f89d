/** The sentences of promises 10 to 14: states, what is looked ahead for, what comes, rows and places. */
final class PromisesOnTables {
    private static final int LEAST = Integer.MIN_VALUE;
    private static final int LARGEST = Integer.MAX_VALUE;

    private PromisesOnTables() {
    }

    static void all() {
        promise10HowManyItems();
        promise10WhereASymbolLeads();
        promise10NoneSuch();
        promise10Full();
        promise11TokensByBits();
        promise11NoSuchItem();
        promise11Full();
        promise12Shift();
        promise12Accept();
        promise12TheRule();
        promise12Error();
        promise12NoneSuch();
        promise12Full();
        promise13RowsOfStatesAndKinds();
        promise13Default();
        promise13HowManyEntries();
        promise13Base();
        promise13NoneSuch();
        promise13Full();
        promise14WhosePlace();
        promise14TheEntry();
        promise14NoRows();
        promise14Full();
    }

    /** 24 rules alike, each of which can stand at all its places in one state. */
    private static TablePacker sixTimesItself() {
        TablePacker x = new TablePacker();
        for (int rule = 0; rule < 24; rule++) {
            Due.rule(x, 0, 20, 20, 20, 20, 20, 20);
        }
        return x;
    }

    private static void promise10HowManyItems() {
        Sentence.of("Promise 10", "How many items a state has (what 0),");
        TablePacker x = new TablePacker();
        Due.due("the start alone: state(0, 0)", x.state(0, 0), 1);
        Due.due("state(1, 0)", x.state(1, 0), 1);
        TablePacker most = sixTimesItself();
        int[] items = {25, 49, 72, 96, 120, 144, 168};
        for (int q = 0; q < items.length; q++) {
            Due.due("state(" + q + ", 0)", most.state(q, 0), items[q]);
        }
        Due.due("count(2)", most.count(2), 7);
    }

    private static void promise10WhereASymbolLeads() {
        Sentence.of("Promise 10", "the state to which a symbol leads (100 + symbol);");
        TablePacker x = new TablePacker();
        Due.rule(x, 0, 1, 27);
        Due.rule(x, 0, 13);
        Due.rule(x, 7, 13);
        Due.due("state(0, 101)", x.state(0, 101), 1);
        Due.due("state(0, 113)", x.state(0, 113), 2);
        Due.due("state(0, 120)", x.state(0, 120), 3);
        Due.due("state(1, 113)", x.state(1, 113), 4);
        Due.due("state(1, 127)", x.state(1, 127), 5);
        Due.due("a state that leads to itself: state(6, 120)", sixTimesItself().state(6, 120), 6);
        Due.due("to the last of 100: state(82, 101)", Due.hundredStates().state(82, 101), 99);
    }

    private static void promise10NoneSuch() {
        Sentence.of("Promise 10", "NONE when there is none such,");
        TablePacker x = Due.sums();
        Due.each("no such state: state(#, 0)", q -> x.state(q, 0), -1, LEAST, -1, 12, 99, 100, LARGEST);
        Due.each("no such state: state(#, 103)", q -> x.state(q, 103), -1, LEAST, -1, 12, 99, 100, LARGEST);
        Due.each("no such question: state(0, #)", what -> x.state(0, what), -1, LEAST, -1, 1, 3, 20, 99, LARGEST);
        Due.each("no such symbol: state(0, #)", what -> x.state(0, what), -1, 114, 119, 128, LARGEST - 99);
        Due.each("it leads nowhere: state(0, #)", what -> x.state(0, what), -1, 100, 101, 113, 123, 127);
        Due.due("state(11, 0)", x.state(11, 0), 1);
    }

    private static void promise10Full() {
        Sentence.of("Promise 10", "FULL when it is too large.");
        TablePacker x = Due.tooLarge();
        Due.each("state(#, 0)", q -> x.state(q, 0), -2, 0, 1, 99);
        Due.each("state(0, #)", what -> x.state(0, what), -2, 0, 101, 120, 127);
    }

    private static void promise11TokensByBits() {
        Sentence.of("Promise 11",
            "The tokens looked ahead for of a rule (24: the start) at a place in a state, by bits;");
        TablePacker x = new TablePacker();
        Due.due("the start: ahead(0, 24, 0)", x.ahead(0, 24, 0), 1);
        Due.due("the start: ahead(1, 24, 1)", x.ahead(1, 24, 1), 1);
        Due.rule(x, 0, 21);
        for (int token = 1; token <= 13; token++) {
            Due.rule(x, 0, 21, token);
        }
        Due.rule(x, 1, 1);
        Due.due("all tokens, and END: ahead(0, 14, 0)", x.ahead(0, 14, 0), 0x3fff);
        Due.due("ahead(1, 14, 1)", x.ahead(1, 14, 1), 0x3fff);
        x.clear();
        Due.rule(x, 0, 21, 22);
        Due.rule(x, 1, 1);
        Due.due("none, but the item is there: ahead(0, 1, 0)", x.ahead(0, 1, 0), 0);
        TablePacker most = sixTimesItself();
        Due.due("the last rule: ahead(6, 23, 6)", most.ahead(6, 23, 6), 1);
        Due.due("its beginning: ahead(6, 23, 0)", most.ahead(6, 23, 0), 1);
        Due.due("the first rule: ahead(1, 0, 0)", most.ahead(1, 0, 0), 0);
        Due.due("in the last state: ahead(99, 12, 6)", Due.hundredStates().ahead(99, 12, 6), 1);
        x.clear();
        Due.rule(x, 1, 1);
        for (int rule = 1; rule < 22; rule++) {
            Due.rule(x, 7, 1);
        }
        Due.rule(x, 0, 3, 3, 3, 21, 5);
        Due.rule(x, 0, 2, 2, 2, 2, 2, 2);
        Due.due("rule 23 in a state: ahead(6, 23, 3)", x.ahead(6, 23, 3), 1);
        Due.due("rule 0 in the next one: ahead(7, 0, 0)", x.ahead(7, 0, 0), 1 << 5);
    }

    private static void promise11NoSuchItem() {
        Sentence.of("Promise 11", "NONE when there is no such item in it,");
        TablePacker x = Due.sums();
        Due.each("no such state: ahead(#, 24, 0)", q -> x.ahead(q, 24, 0), -1, LEAST, -1, 12, 99, 100, LARGEST);
        Due.each("no such rule: ahead(0, #, 0)", rule -> x.ahead(0, rule, 0), -1, LEAST, -1, 6, 23, 25, LARGEST);
        Due.each("no such place: ahead(0, 1, #)", place -> x.ahead(0, 1, place), -1, LEAST, -7, -1, 2, 6, 7, LARGEST);
        Due.each("no such place: ahead(0, 24, #)", place -> x.ahead(0, 24, place), -1, LEAST, -1, 1, 2, 6, 7, LARGEST);
        Due.each("no such place: ahead(3, 24, #)", place -> x.ahead(3, 24, place), -1, LEAST, -1, 2, 6, 7, LARGEST);
        Due.due("another place: ahead(3, 24, 0)", x.ahead(3, 24, 0), -1);
        Due.due("a rule of another state: ahead(2, 0, 0)", x.ahead(2, 0, 0), -1);
        Due.due("an item beside it is no other rule's: ahead(0, 0, 7)", x.ahead(0, 0, 7), -1);
    }

    private static void promise11Full() {
        Sentence.of("Promise 11", "FULL when it is too large.");
        TablePacker x = Due.tooLarge();
        Due.each("ahead(#, 24, 0)", q -> x.ahead(q, 24, 0), -2, 0, 1, 99);
        Due.each("ahead(0, #, 0)", rule -> x.ahead(0, rule, 0), -2, 0, 17, 24);
    }

    private static void promise12Shift() {
        Sentence.of("Promise 12", "What comes in a state with a token: 1000 + the state for shift,");
        TablePacker x = Due.hundredStates();
        Due.due("comes(0, 1)", x.comes(0, 1), 1001);
        Due.due("comes(0, 13)", x.comes(0, 13), 1013);
        Due.due("to the last state: comes(82, 1)", x.comes(82, 1), 1099);
    }

    private static void promise12Accept() {
        Sentence.of("Promise 12", "2000 for accept,");
        TablePacker x = new TablePacker();
        Due.due("without rules: comes(1, 0)", x.comes(1, 0), 2000);
        Due.due("in 100 states: comes(14, 0)", Due.hundredStates().comes(14, 0), 2000);
    }

    private static void promise12TheRule() {
        Sentence.of("Promise 12", "3000 + the rule,");
        TablePacker x = new TablePacker();
        Due.rule(x, 0);
        Due.due("rule 0, which is empty: comes(0, 0)", x.comes(0, 0), 3000);
        for (int rule = 1; rule < 24; rule++) {
            Due.rule(x, 0, 1 + rule / 13, 1 + rule % 13);
        }
        Due.due("rule 23: comes", x.comes(x.state(x.state(0, 102), 111), 0), 3023);
    }

    private static void promise12Error() {
        Sentence.of("Promise 12", "0 for an error.");
        TablePacker x = Due.sums();
        Due.each("comes(0, #)", token -> x.comes(0, token), 0, 0, 1, 2, 4, 6, 13);
        Due.each("comes(2, #)", token -> x.comes(2, token), 0, 3, 5, 13);
        Due.each("beside accept: comes(3, #)", token -> x.comes(3, token), 0, 2, 3, 4, 5, 13);
    }

    private static void promise12NoneSuch() {
        Sentence.of("Promise 12", "NONE when there is none such,");
        TablePacker x = Due.sums();
        Due.each("no such state: comes(#, 0)", q -> x.comes(q, 0), -1, LEAST, -1, 12, 99, 100, LARGEST);
        Due.each("no such token: comes(3, #)", t -> x.comes(3, t), -1, LEAST, -1, 14, 20, 27, LARGEST);
        Due.due("state 100 of 100: comes(100, 0)", Due.hundredStates().comes(100, 0), -1);
    }

    private static void promise12Full() {
        Sentence.of("Promise 12", "FULL when it is too large.");
        TablePacker x = Due.tooLarge();
        Due.each("comes(#, 0)", q -> x.comes(q, 0), -2, 0, 1, 99);
        Due.each("comes(0, #)", t -> x.comes(0, t), -2, 0, 1, 13);
    }

    private static void promise13RowsOfStatesAndKinds() {
        Sentence.of("Promise 13", "Of row r (0 .. 99: of a state, 100 + k: of kind k)");
        TablePacker x = Due.hundredStates();
        Due.row(x, 99, 12, 0, -1);
        Due.row(x, 100, 14, 0, -1);
        Due.row(x, 107, -1, 0, -1);
        Due.row(x, 14, -1, 1, x.row(14, 2));
        Due.row(x, 0, -1, 13, 0);
    }

    private static void promise13Default() {
        Sentence.of("Promise 13", "its default (what 0; NONE for none),");
        TablePacker x = new TablePacker();
        Due.rule(x, 0);
        Due.rule(x, 0, 1);
        Due.due("rule 0: row(0, 0)", x.row(0, 0), 0);
        Due.due("rule 1: row(1, 0)", x.row(1, 0), 1);
        Due.due("none: row(2, 0)", x.row(2, 0), -1);
        Due.due("a kind's: row(100, 0)", x.row(100, 0), 2);
        Due.due("none of a kind: row(101, 0)", x.row(101, 0), -1);
    }

    private static void promise13HowManyEntries() {
        Sentence.of("Promise 13", "how many entries (1),");
        TablePacker x = new TablePacker();
        for (int token = 1; token <= 13; token++) {
            Due.rule(x, 0, 20, token);
        }
        Due.rule(x, 0);
        Due.due("none: row(0, 1)", x.row(0, 1), 0);
        Due.due("accept, and 13 shifts: row(1, 1)", x.row(1, 1), 14);
        Due.due("of a kind none: row(100, 1)", x.row(100, 1), 0);
        Due.due("of a kind one: row(101, 1)", Due.sums().row(101, 1), 1);
    }

    private static void promise13Base() {
        Sentence.of("Promise 13", "its base (2; NONE without entries);");
        TablePacker x = Due.sums();
        Due.due("0, though its least token is 3: row(0, 2)", x.row(0, 2), 0);
        Due.due("row(1, 2)", x.row(1, 2), 1);
        Due.due("without entries: row(2, 2)", x.row(2, 2), -1);
        Due.due("of a kind: row(100, 2)", x.row(100, 2), 12);
        Due.due("of a kind without entries: row(103, 2)", x.row(103, 2), -1);
    }

    private static void promise13NoneSuch() {
        Sentence.of("Promise 13", "NONE when there is none such,");
        TablePacker x = Due.sums();
        for (int what = 0; what < 3; what++) {
            int asked = what;
            Due.each("row(#, " + what + ")", r -> x.row(r, asked), -1, LEAST, -1, 12, 50, 99, 108, 120, LARGEST);
        }
        Due.each("row(3, #)", what -> x.row(3, what), -1, LEAST, -1, 3, 100, LARGEST);
        Due.each("row(101, #)", what -> x.row(101, what), -1, LEAST, -1, 3, 100, LARGEST);
    }

    private static void promise13Full() {
        Sentence.of("Promise 13", "FULL when it is too large.");
        TablePacker x = Due.tooLarge();
        for (int what = 0; what < 3; what++) {
            int asked = what;
            Due.each("row(#, " + what + ")", r -> x.row(r, asked), -2, 0, 99, 100, 107);
        }
    }

    private static void promise14WhosePlace() {
        Sentence.of("Promise 14", "Whose place of the table it is: a row as above (what 0),");
        TablePacker x = Due.sums();
        Due.due("of a state: place(0, 0)", x.place(0, 0), 3);
        Due.due("of state 0: place(3, 0)", x.place(3, 0), 0);
        Due.due("of a kind: place(13, 0)", x.place(13, 0), 100);
        Due.due("the last one: place(16, 0)", x.place(16, 0), 102);
    }

    private static void promise14TheEntry() {
        Sentence.of("Promise 14", "the entry there (1: as what comes tells it; of a kind the state);");
        TablePacker x = Due.sums();
        Due.due("accept: place(0, 1)", x.place(0, 1), 2000);
        Due.due("shift: place(1, 1)", x.place(1, 1), 1007);
        Due.due("a kind's state: place(13, 1)", x.place(13, 1), 6);
        Due.due("the last one: place(16, 1)", x.place(16, 1), 11);
        x.clear();
        Due.rule(x, 0, 21, 3);
        Due.rule(x, 0, 22, 4);
        Due.rule(x, 0, 22, 5);
        Due.rule(x, 1, 1);
        Due.rule(x, 2, 1);
        Due.due("a reduction by another rule than the default: place", x.place(x.row(1, 2) + 3, 1), 3003);
    }

    private static void promise14NoRows() {
        Sentence.of("Promise 14", "NONE when it is no row's,");
        TablePacker x = new TablePacker();
        Due.rule(x, 0, 13);
        for (int what = 0; what < 2; what++) {
            int asked = what;
            Due.each("a gap: place(#, " + what + ")", k -> x.place(k, asked), -1, 1, 6, 12);
            Due.each("behind all: place(#, " + what + ")", k -> x.place(k, asked), -1, 14, 2199, 2200, LARGEST);
            Due.each("before all: place(#, " + what + ")", k -> x.place(k, asked), -1, LEAST, -13, -1);
        }
        Due.each("no such question: place(0, #)", what -> x.place(0, what), -1, LEAST, -1, 2, LARGEST);
    }

    private static void promise14Full() {
        Sentence.of("Promise 14", "FULL when it is too large.");
        TablePacker x = Due.tooLarge();
        Due.each("place(#, 0)", k -> x.place(k, 0), -2, 0, 1, 99);
        Due.each("place(#, 1)", k -> x.place(k, 1), -2, 0, 1, 99);
    }
}
