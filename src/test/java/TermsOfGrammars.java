/** The sentences of the document's terms on tokens, rules, items and states. */
final class TermsOfGrammars {
    private static final int LEAST = Integer.MIN_VALUE;
    private static final int LARGEST = Integer.MAX_VALUE;

    private TermsOfGrammars() {
    }

    static void all() {
        tokensAre0To13();
        zeroIsTheEnd();
        kindsAre0To7();
        symbols();
        rulesAreNumberedFrom0AtMost24();
        rowsOfAtMost6Symbols();
        aRuleIsOpenThenClosed();
        openOnesDoNotCount();
        itemsOfRules();
        itemsOfTheStart();
        withAnItemBeforeAKindAllItsRules();
        state0();
        aSymbolLeadsOn();
        statesAreNumberedAsFound();
        atMost100States();
        tooLargeHasNoTables();
    }

    private static void tokensAre0To13() {
        Sentence.of("Terms", "TOKENS are 0 .. 13,");
        TablePacker x = new TablePacker();
        Due.rule(x, 0, 1);
        Due.rule(x, 0, 13);
        Due.due("comes(0, 1)", x.comes(0, 1), 1001);
        Due.due("comes(0, 13)", x.comes(0, 13), 1002);
        Due.due("comes(0, 0)", x.comes(0, 0), 0);
        Due.each("comes(0, #)", t -> x.comes(0, t), -1, -1, 14, LEAST, LARGEST);
        Due.due("token(13)", x.token(13), 1);
        Due.each("token(#)", x::token, -1, -1, 14, LEAST, LARGEST);
    }

    private static void zeroIsTheEnd() {
        Sentence.of("Terms", "0 the END.");
        TablePacker x = new TablePacker();
        Due.rule(x, 0, 13);
        Due.due("ahead(0, 24, 0)", x.ahead(0, 24, 0), 1);
        Due.due("comes(2, 0)", x.comes(2, 0), 2000);
        Due.due("token(0)", x.token(0), -1);
        x.token(13);
        Due.due("parse(0)", x.parse(0), 0);
        Due.due("the END is behind all tokens: parsed(1)", x.parsed(1), 1);
    }

    private static void kindsAre0To7() {
        Sentence.of("Terms", "KINDS are 0 .. 7;");
        TablePacker x = new TablePacker();
        Due.each("begin(#)", x::begin, -1, -1, 8, LEAST, LARGEST);
        Due.due("begin(0)", x.begin(0), 0);
        x.close();
        Due.due("begin(7)", x.begin(7), 1);
        x.close();
        Due.due("kinds 0 and 7 can be empty: count(6)", x.count(6), 1 | 1 << 7);
        Due.each("first(#)", x::first, 0, 0, 7);
        Due.each("first(#)", x::first, -1, -1, 8);
        Due.each("row(#, 1)", r -> x.row(r, 1), 0, 100, 107);
        Due.due("row(108, 1)", x.row(108, 1), -1);
    }

    private static void symbols() {
        Sentence.of("Terms", "SYMBOLS: 0 .. 13 are tokens, 20 + k is kind k.");
        TablePacker x = new TablePacker();
        x.begin(0);
        Due.each("put(#)", x::put, -1, LEAST, -1, 14, 15, 19, 28, 29, LARGEST);
        int[] symbols = {1, 13, 20, 27};
        for (int i = 0; i < symbols.length; i++) {
            Due.due("put(" + symbols[i] + ")", x.put(symbols[i]), i + 1);
        }
        x.close();
        Due.rule(x, 7, 9);
        Due.due("state(0, 101)", x.state(0, 101), 1);
        Due.due("state(1, 113)", x.state(1, 113), 3);
        Due.due("state(3, 120)", x.state(3, 120), 4);
        Due.due("27 is kind 7, whose rule is brought: state(4, 109)", x.state(4, 109), 5);
        Due.due("state(4, 127)", x.state(4, 127), 6);
        Due.each("state(0, #)", what -> x.state(0, what), -1, 99, 114, 119, 128);
    }

    private static void rulesAreNumberedFrom0AtMost24() {
        Sentence.of("Terms", "RULES are numbered from 0, at most 24:");
        TablePacker x = new TablePacker();
        for (int rule = 0; rule < 24; rule++) {
            Due.due("begin of rule " + rule, x.begin(0), rule);
            x.put(1 + rule % 13);
            x.close();
        }
        Due.due("begin of a 25th", x.begin(0), -1);
        Due.due("count(0)", x.count(0), 24);
        Due.due("ahead(0, 23, 0)", x.ahead(0, 23, 0), 1);
        Due.due("rule 24 is the start: ahead(0, 24, 0)", x.ahead(0, 24, 0), 1);
        Due.due("ahead(0, 25, 0)", x.ahead(0, 25, 0), -1);
    }

    private static void rowsOfAtMost6Symbols() {
        Sentence.of("Terms", "a kind, and a row of at most 6 symbols, none of them token 0.");
        TablePacker x = new TablePacker();
        x.begin(0);
        Due.due("put(0) as the first", x.put(0), -1);
        for (int i = 1; i <= 6; i++) {
            Due.due("put(1) as symbol " + i, x.put(1), i);
        }
        Due.each("put(#) as the seventh", x::put, -1, 1, 13, 20, 27, 0);
        x.close();
        x.begin(0);
        Due.due("close of an empty row", x.close(), 1);
        Due.due("states of a row of 6, the empty row has none: count(2)", x.count(2), 8);
        Due.tokens(x, 1, 1, 1, 1, 1, 1);
        Due.due("parse(0) of 6", x.parse(0), 0);
        Due.tokens(x, 1, 1, 1, 1, 1, 1, 1);
        Due.due("parse(0) of 7", x.parse(0), 1);
        x.drop();
        Due.due("parse(0) of none", x.parse(0), 0);
    }

    private static void aRuleIsOpenThenClosed() {
        Sentence.of("Terms", "A rule is OPEN while its symbols are told, one at a time; then it is CLOSED;");
        TablePacker x = new TablePacker();
        Due.due("put before begin", x.put(1), -1);
        Due.due("begin(0)", x.begin(0), 0);
        Due.due("begin(0) while it is open", x.begin(0), -1);
        Due.due("put(1)", x.put(1), 1);
        Due.due("begin(0) while its symbols are told", x.begin(0), -1);
        Due.due("put(2)", x.put(2), 2);
        Due.due("close()", x.close(), 1);
        Due.due("put(3) when it is closed", x.put(3), -1);
        Due.due("its row is as told: ahead(3, 0, 2)", x.ahead(x.state(x.state(0, 101), 102), 0, 2), 1);
        Due.due("close() again", x.close(), 0);
        Due.due("begin(0) of the next", x.begin(0), 1);
    }

    private static void openOnesDoNotCount() {
        Sentence.of("Terms", "open ones don't count.");
        TablePacker x = new TablePacker();
        x.begin(0);
        Due.due("an open one alone: count(0)", x.count(0), 0);
        Due.due("count(6)", x.count(6), 0);
        Due.due("count(2)", x.count(2), 2);
        Due.due("state(0, 0)", x.state(0, 0), 1);
        Due.due("ahead(0, 0, 0)", x.ahead(0, 0, 0), -1);
        Due.due("parse(0)", x.parse(0), -1);
        x.put(5);
        Due.due("with a symbol: first(0)", x.first(0), 0);
        Due.due("comes(0, 5)", x.comes(0, 5), 0);
        x.close();
        x.begin(0);
        x.put(6);
        Due.due("behind a closed one: count(0)", x.count(0), 1);
        Due.due("first(0)", x.first(0), 1 << 5);
        Due.due("count(2)", x.count(2), 3);
        Due.due("comes(0, 6)", x.comes(0, 6), 0);
        Due.tokens(x, 6);
        Due.due("parse(0)", x.parse(0), 1);
        Due.due("parse(1)", x.parse(1), 1);
        x.close();
        Due.due("closed: parse(0)", x.parse(0), 0);
    }

    private static void itemsOfRules() {
        Sentence.of("Terms", "ITEMS: a rule with a place in its row (before a symbol, or behind all),");
        TablePacker x = new TablePacker();
        Due.rule(x, 0, 1, 21);
        Due.rule(x, 1);
        int one = x.state(0, 101);
        int two = x.state(one, 121);
        Due.due("before its first symbol: ahead(0, 0, 0)", x.ahead(0, 0, 0), 1);
        Due.due("before its last one: ahead(" + one + ", 0, 1)", x.ahead(one, 0, 1), 1);
        Due.due("behind all: ahead(" + two + ", 0, 2)", x.ahead(two, 0, 2), 1);
        Due.due("there is no place behind that", x.ahead(two, 0, 3), -1);
        Due.due("an empty row has one place: ahead(" + one + ", 1, 0)", x.ahead(one, 1, 0), 1);
        for (int q = 0; q < x.count(2); q++) {
            Due.due("ahead(" + q + ", 1, 1)", x.ahead(q, 1, 1), -1);
            Due.due("ahead(" + q + ", 0, -1)", x.ahead(q, 0, -1), -1);
        }
        Due.due("places of one rule are two items: state(1, 0)", x.state(one, 0), 2);
    }

    private static void itemsOfTheStart() {
        Sentence.of("Terms", "or the START, which has just kind 0 as its row.");
        TablePacker x = new TablePacker();
        Due.due("ahead(0, 24, 0)", x.ahead(0, 24, 0), 1);
        Due.due("state(0, 120)", x.state(0, 120), 1);
        Due.due("ahead(1, 24, 1)", x.ahead(1, 24, 1), 1);
        Due.due("ahead(1, 24, 2)", x.ahead(1, 24, 2), -1);
        Due.each("no other symbol leads on: state(0, #)", what -> x.state(0, what), -1, 100, 101, 113, 121, 127);
        Due.each("nor is there one behind it: state(1, #)", what -> x.state(1, what), -1, 100, 101, 113, 120, 127);
    }

    private static void withAnItemBeforeAKindAllItsRules() {
        Sentence.of("Terms", "A STATE is a set of items: with an item that stands before kind k all rules of k, at "
            + "their beginning, are in it.");
        TablePacker x = new TablePacker();
        Due.rule(x, 0, 21, 4);
        Due.rule(x, 1, 22, 5);
        Due.rule(x, 1, 21, 6);
        Due.rule(x, 2, 27);
        Due.rule(x, 2);
        Due.rule(x, 3, 3);
        Due.due("the start, kinds 0, 1, 2, each rule once: state(0, 0)", x.state(0, 0), 6);
        Due.each("ahead(0, #, 0) is there", rule -> x.ahead(0, rule, 0) < 0 ? -1 : 1, 1, 0, 1, 2, 3, 4, 24);
        Due.due("kind 3 is behind no item: ahead(0, 5, 0)", x.ahead(0, 5, 0), -1);
        Due.due("a token brings none: state(0, 121) has two", x.state(x.state(0, 121), 0), 2);
        Due.rule(x, 7, 23);
        Due.due("a kind without rules has brought none till now: state(0, 0)", x.state(0, 0), 8);
        Due.due("ahead(0, 5, 0)", x.ahead(0, 5, 0) >= 0);
        broughtByWayOfOthers();
    }

    private static void broughtByWayOfOthers() {
        TablePacker x = new TablePacker();
        for (int kind = 7; kind > 0; kind--) {
            Due.rule(x, kind - 1, 20 + kind);
            Due.rule(x, kind, 1);
        }
        Due.due("the start, a chain of all kinds, the last one first: state(0, 0)", x.state(0, 0), 15);
        x.clear();
        for (int kind = 1; kind < 8; kind++) {
            Due.rule(x, kind, 1);
            Due.rule(x, kind - 1, 20 + kind);
        }
        Due.due("the same, the first one first: state(0, 0)", x.state(0, 0), 15);
        x.clear();
        Due.rule(x, 1, 22);
        Due.rule(x, 2, 20, 3);
        Due.rule(x, 0, 5, 21);
        Due.rule(x, 0, 6);
        Due.due("kind 0 by way of kinds 1 and 2: state(1, 0)", x.state(x.state(0, 105), 0), 5);
        x.clear();
        Due.rule(x, 2, 21);
        Due.rule(x, 1, 7);
        Due.rule(x, 0, 5, 22);
        Due.due("kind 1 by way of kind 2, by the first rule of all: state(1, 0)", x.state(x.state(0, 105), 0), 3);
    }

    private static void state0() {
        Sentence.of("Terms", "State 0 has the start at its beginning.");
        TablePacker x = new TablePacker();
        Due.due("without rules: state(0, 0)", x.state(0, 0), 1);
        Due.due("ahead(0, 24, 0)", x.ahead(0, 24, 0), 1);
        Due.due("ahead(0, 24, 1)", x.ahead(0, 24, 1), -1);
        Due.rule(x, 1, 3);
        Due.due("without rules of kind 0: state(0, 0)", x.state(0, 0), 1);
        for (int rule = 1; rule < 24; rule++) {
            Due.rule(x, 0, 1);
        }
        Due.due("with 23 rules of kind 0: state(0, 0)", x.state(0, 0), 24);
        Due.due("ahead(0, 24, 0)", x.ahead(0, 24, 0), 1);
    }

    private static void aSymbolLeadsOn() {
        Sentence.of("Terms",
            "From a state a symbol leads on, if items stand before it, to the state with these one place further "
            + "(and what comes with them).");
        TablePacker x = new TablePacker();
        Due.rule(x, 0, 1, 20);
        Due.rule(x, 0, 1, 1, 2);
        Due.rule(x, 0, 2);
        Due.due("both one place further, and what comes with them: state(1, 0)", x.state(x.state(0, 101), 0), 5);
        Due.due("ahead(1, 0, 1)", x.ahead(1, 0, 1), 1);
        Due.due("ahead(1, 1, 1)", x.ahead(1, 1, 1), 1);
        Due.due("ahead(1, 2, 0)", x.ahead(1, 2, 0), 1);
        Due.due("state(1, 101): three rows, and what comes with them", x.state(x.state(1, 101), 0), 6);
        int deep = x.state(1, 101);
        Due.due("a state that leads to itself", x.state(deep, 101), deep);
        Due.due("two states that lead to the same", x.state(0, 102), x.state(1, 102));
        int last = x.state(0, 102);
        for (int symbol = 0; symbol < 28; symbol++) {
            Due.due("items behind all stand before nothing: " + symbol, x.state(last, 100 + symbol), -1);
        }
        for (int q = 0; q < x.count(2); q++) {
            Due.due("no item stands before END: state(" + q + ", 100)", x.state(q, 100), -1);
        }
    }

    private static void statesAreNumberedAsFound() {
        Sentence.of("Terms", "States are numbered as they are found: of each state in turn, by its symbols in order;");
        TablePacker x = new TablePacker();
        Due.rule(x, 0, 27, 1);
        Due.rule(x, 0, 21, 12);
        Due.rule(x, 7, 13);
        Due.rule(x, 7, 2, 11);
        Due.rule(x, 1, 9, 10);
        int[][] leads = {{0, 102, 1}, {0, 109, 2}, {0, 113, 3}, {0, 120, 4}, {0, 121, 5}, {0, 127, 6}, {1, 111, 7},
            {2, 110, 8}, {5, 112, 9}, {6, 101, 10}};
        for (int[] lead : leads) {
            Due.due("state(" + lead[0] + ", " + lead[1] + ")", x.state(lead[0], lead[1]), lead[2]);
        }
        Due.due("count(2)", x.count(2), 11);
    }

    private static void atMost100States() {
        Sentence.of("Terms", "at most 100 are made: when there would be more, the grammar is TOO LARGE,");
        TablePacker x = Due.hundredStates();
        Due.due("just 100: count(2)", x.count(2), 100);
        Due.due("state(99, 0)", x.state(99, 0), 1);
        Due.due("state(100, 0)", x.state(100, 0), -1);
        Due.rule(x, 0, 2, 1);
        Due.due("one more rule, but 100 still: count(2)", x.count(2), 100);
        Due.due("comes(99, 0)", x.comes(99, 0), 3012);
        Due.rule(x, 0, 2, 2);
        Due.due("101: count(2)", x.count(2), -2);
        for (int i = 0; i < 4; i++) {
            Due.rule(x, 0, 3, 3 + i, 3, 3, 3, 3);
        }
        Due.due("many more: count(2)", x.count(2), -2);
        x.clear();
        Due.due("none of them any more: count(2)", x.count(2), 2);
        Due.due("nor of their items: state(0, 0)", x.state(0, 0), 1);
    }

    private static void tooLargeHasNoTables() {
        Sentence.of("Terms", "and has no tables.");
        TablePacker x = Due.tooLarge();
        x.token(1);
        Due.each("count(#)", x::count, -2, 2, 3, 4, 5);
        Due.each("state(#, 0)", q -> x.state(q, 0), -2, 0, 1, 99);
        Due.each("ahead(#, 24, 0)", q -> x.ahead(q, 24, 0), -2, 0, 1, 99);
        Due.each("comes(#, 1)", q -> x.comes(q, 1), -2, 0, 1, 99);
        Due.each("row(#, 0)", r -> x.row(r, 0), -2, 0, 1, 99, 100, 107);
        Due.each("place(#, 0)", k -> x.place(k, 0), -2, 0, 1, 99);
        Due.each("parse(#)", x::parse, -2, 0, 1);
    }
}
