/** The sentences of promises 1 to 9: rules, tokens, and what is told of the grammar as a whole. */
final class PromisesOnRules {
    private static final int LEAST = Integer.MIN_VALUE;
    private static final int LARGEST = Integer.MAX_VALUE;

    private PromisesOnRules() {
    }

    static void all() {
        promise1NoRulesNoTokens();
        promise2OneMoreRule();
        promise2NoneWhenOneIsOpen();
        promise2NoSuchKind();
        promise2ThereAre24();
        promise3OneSymbolMore();
        promise3NoneIsOpen();
        promise3NoSuchSymbol();
        promise3Token0();
        promise3ThereAre6();
        promise4Closed();
        promise4NoneIsOpen();
        promise5NoRulesAnyMore();
        promise5TokensStay();
        promise5HowManyThereWere();
        promise6OneMoreToken();
        promise6Not1To13();
        promise6ThereAre100();
        promise7NoTokensAnyMore();
        promise8ClosedRules();
        promise8Tokens();
        promise8States();
        promise8Clashes();
        promise8Entries();
        promise8Places();
        promise8KindsThatCanBeEmpty();
        promise8NoneForOthers();
        promise8FullFor2To5();
        promise9TokensByBits();
        promise9NoSuchKind();
    }

    private static void promise1NoRulesNoTokens() {
        Sentence.of("Promise 1", "`TablePacker()`: No rules, no tokens.");
        TablePacker x = new TablePacker();
        Due.each("count(#)", x::count, 0, 0, 1, 3, 6);
        Due.due("count(2)", x.count(2), 2);
        Due.due("clear()", x.clear(), 0);
        Due.due("drop()", x.drop(), 0);
        Due.due("close()", x.close(), 0);
        Due.due("parse(0)", x.parse(0), -1);
        x.begin(0);
        x.token(1);
        TablePacker other = new TablePacker();
        Due.due("another object has none of these: clear()", other.clear(), 0);
        Due.due("drop()", other.drop(), 0);
    }

    private static void promise2OneMoreRule() {
        Sentence.of("Promise 2", "One more rule of a kind, open: its number.");
        TablePacker x = new TablePacker();
        Due.due("the first: begin(7)", x.begin(7), 0);
        Due.due("it is open: put(3)", x.put(3), 1);
        x.close();
        Due.due("the second: begin(0)", x.begin(0), 1);
        x.close();
        Due.due("it is of its kind: first(7)", x.first(7), 1 << 3);
        Due.due("count(6)", x.count(6), 1);
        Due.due("the third, of the same kind: begin(7)", x.begin(7), 2);
        x.clear();
        Due.due("the first again: begin(5)", x.begin(5), 0);
    }

    private static void promise2NoneWhenOneIsOpen() {
        Sentence.of("Promise 2", "NONE when one is open,");
        TablePacker x = new TablePacker();
        x.begin(3);
        Due.each("begin(#)", x::begin, -1, 0, 3, 7, 8);
        x.put(1);
        Due.due("begin(3)", x.begin(3), -1);
        x.put(2);
        x.close();
        Due.due("the open one is as it was: first(3)", x.first(3), 2);
        Due.due("count(0)", x.count(0), 1);
        Due.due("begin(3)", x.begin(3), 1);
    }

    private static void promise2NoSuchKind() {
        Sentence.of("Promise 2", "there is no such kind,");
        TablePacker x = new TablePacker();
        Due.each("begin(#)", x::begin, -1, LEAST, -8, -1, 8, 20, 27, LARGEST);
        Due.due("none is open: close()", x.close(), 0);
        Due.due("count(0)", x.count(0), 0);
    }

    private static void promise2ThereAre24() {
        Sentence.of("Promise 2", "or there are 24.");
        TablePacker x = new TablePacker();
        for (int rule = 0; rule < 24; rule++) {
            Due.due("begin(0)", x.begin(0), rule);
            x.close();
        }
        Due.each("begin(#)", x::begin, -1, 0, 7);
        Due.due("none is open: close()", x.close(), 0);
        Due.due("count(0)", x.count(0), 24);
        x.clear();
        Due.due("begin(0)", x.begin(0), 0);
    }

    private static void promise3OneSymbolMore() {
        Sentence.of("Promise 3", "The open rule has one symbol more: how many.");
        TablePacker x = new TablePacker();
        for (int rule = 0; rule < 2; rule++) {
            x.begin(0);
            int[] symbols = {1, 13, 20, 27, 7, 7};
            for (int i = 0; i < symbols.length; i++) {
                Due.due("put(" + symbols[i] + ")", x.put(symbols[i]), i + 1);
            }
            x.close();
        }
        Due.due("ahead(7, 1, 6)", x.ahead(7, 1, 6), 1);
    }

    private static void promise3NoneIsOpen() {
        Sentence.of("Promise 3", "NONE when none is open,");
        TablePacker x = new TablePacker();
        Due.due("no rule at all: put(1)", x.put(1), -1);
        x.begin(8);
        Due.due("behind a refused begin: put(1)", x.put(1), -1);
        x.begin(0);
        x.put(1);
        x.close();
        Due.due("behind close: put(2)", x.put(2), -1);
        Due.due("the closed one is as it was: count(2)", x.count(2), 3);
        x.begin(0);
        x.clear();
        Due.due("behind clear: put(1)", x.put(1), -1);
    }

    private static void promise3NoSuchSymbol() {
        Sentence.of("Promise 3", "there is no such symbol,");
        TablePacker x = new TablePacker();
        x.begin(0);
        Due.each("put(#)", x::put, -1, LEAST, -20, -1, 14, 15, 16, 17, 18, 19, 28, 100, LARGEST);
        Due.due("put(27) is the first", x.put(27), 1);
    }

    private static void promise3Token0() {
        Sentence.of("Promise 3", "it is token 0,");
        TablePacker x = new TablePacker();
        x.begin(0);
        Due.due("put(0)", x.put(0), -1);
        Due.due("put(1)", x.put(1), 1);
        Due.due("put(0)", x.put(0), -1);
        Due.due("put(20), kind 0", x.put(20), 2);
        x.close();
        Due.due("put(0) when none is open", x.put(0), -1);
        Due.due("first(0)", x.first(0), 2);
    }

    private static void promise3ThereAre6() {
        Sentence.of("Promise 3", "or there are 6.");
        TablePacker x = new TablePacker();
        x.begin(0);
        for (int i = 1; i <= 6; i++) {
            Due.due("put(2)", x.put(2), i);
        }
        Due.each("put(#)", x::put, -1, 2, 20);
        Due.due("it is open still: close()", x.close(), 1);
        Due.due("six symbols: count(2)", x.count(2), 8);
        x.begin(0);
        Due.due("the next has none yet: put(2)", x.put(2), 1);
    }

    private static void promise4Closed() {
        Sentence.of("Promise 4", "The open rule is closed: 1;");
        TablePacker x = new TablePacker();
        x.begin(0);
        Due.due("without symbols: close()", x.close(), 1);
        Due.due("it counts: count(0)", x.count(0), 1);
        Due.due("count(6)", x.count(6), 1);
        x.begin(1);
        for (int i = 0; i < 6; i++) {
            x.put(3);
        }
        Due.due("with six: close()", x.close(), 1);
        Due.due("count(0)", x.count(0), 2);
        Due.due("first(1)", x.first(1), 1 << 3);
        for (int rule = 2; rule < 24; rule++) {
            x.begin(0);
            Due.due("up to 24: close()", x.close(), 1);
        }
        Due.due("count(0)", x.count(0), 24);
    }

    private static void promise4NoneIsOpen() {
        Sentence.of("Promise 4", "0 when none is open.");
        TablePacker x = new TablePacker();
        Due.due("no rule at all: close()", x.close(), 0);
        x.begin(0);
        x.close();
        Due.due("closed already: close()", x.close(), 0);
        x.begin(-1);
        Due.due("refused: close()", x.close(), 0);
        x.begin(0);
        x.clear();
        Due.due("cleared: close()", x.close(), 0);
        Due.due("count(0)", x.count(0), 0);
    }

    private static void promise5NoRulesAnyMore() {
        Sentence.of("Promise 5", "No rules any more;");
        TablePacker x = Due.sums();
        Due.due("count(2)", x.count(2), 12);
        x.begin(0);
        x.clear();
        Due.each("count(#)", x::count, 0, 0, 3, 6);
        Due.each("count(#)", x::count, 1, 4, 5);
        Due.due("count(2)", x.count(2), 2);
        Due.due("state(0, 0)", x.state(0, 0), 1);
        Due.due("first(0)", x.first(0), 0);
        Due.due("the open one is gone too: close()", x.close(), 0);
        Due.due("ahead(0, 0, 0)", x.ahead(0, 0, 0), -1);
        Due.due("begin(0)", x.begin(0), 0);
        x.close();
        Due.rule(x, 1, 9);
        Due.due("symbols of an earlier rule 0 are gone: count(6)", x.count(6), 1);
        Due.due("state(0, 0)", x.state(0, 0), 2);
        x.clear();
        Due.rule(x, 0, 21);
        Due.rule(x, 1, 9);
        Due.due("a kind that brings rules: state(0, 0)", x.state(0, 0), 3);
        x.clear();
        Due.rule(x, 0);
        Due.rule(x, 1, 9);
        Due.due("it brings none any more: state(0, 0)", x.state(0, 0), 2);
        x.clear();
        Due.rule(x, 0, 1, 2, 3);
        Due.rule(x, 0, 1, 2, 3);
        Due.due("five states: count(2)", x.count(2), 5);
        x.clear();
        Due.rule(x, 0, 1);
        Due.rule(x, 7, 5, 5, 5);
        Due.due("nothing leads on from those of earlier rules: count(2)", x.count(2), 3);
    }

    private static void promise5TokensStay() {
        Sentence.of("Promise 5", "tokens stay:");
        TablePacker x = Due.sums();
        Due.tokens(x, 1, 2);
        x.clear();
        Due.due("count(1)", x.count(1), 2);
        Due.rule(x, 0, 1, 2);
        Due.due("parse(0)", x.parse(0), 0);
        Due.due("token(3)", x.token(3), 3);
    }

    private static void promise5HowManyThereWere() {
        Sentence.of("Promise 5", "how many there were (an open one too).");
        TablePacker x = new TablePacker();
        Due.due("none: clear()", x.clear(), 0);
        x.begin(0);
        Due.due("an open one alone: clear()", x.clear(), 1);
        Due.rule(x, 0);
        Due.due("a closed one alone: clear()", x.clear(), 1);
        for (int rule = 0; rule < 23; rule++) {
            Due.rule(x, 0);
        }
        x.begin(0);
        Due.due("23 and an open one: clear()", x.clear(), 24);
        Due.due("again: clear()", x.clear(), 0);
        for (int rule = 0; rule < 25; rule++) {
            Due.rule(x, 0);
        }
        Due.due("24, and one that was refused: clear()", x.clear(), 24);
    }

    private static void promise6OneMoreToken() {
        Sentence.of("Promise 6", "One more token behind those that are parsed: how many.");
        TablePacker x = new TablePacker();
        Due.rule(x, 0, 1, 13);
        Due.due("token(1)", x.token(1), 1);
        Due.due("parse(0)", x.parse(0), 1);
        Due.due("token(13)", x.token(13), 2);
        Due.due("parse(0)", x.parse(0), 0);
        Due.due("token(13)", x.token(13), 3);
        Due.due("parse(0)", x.parse(0), 1);
        Due.due("parsed(1)", x.parsed(1), 2);
    }

    private static void promise6Not1To13() {
        Sentence.of("Promise 6", "NONE when it is not 1 .. 13,");
        TablePacker x = new TablePacker();
        Due.each("token(#)", x::token, -1, LEAST, -1, 0, 14, 20, 27, LARGEST);
        Due.due("nothing is done: count(1)", x.count(1), 0);
        for (int t = 1; t <= 13; t++) {
            Due.due("token(" + t + ")", x.token(t), t);
        }
    }

    private static void promise6ThereAre100() {
        Sentence.of("Promise 6", "or there are 100.");
        TablePacker x = new TablePacker();
        for (int i = 1; i <= 100; i++) {
            Due.due("token(1)", x.token(1), i);
        }
        Due.each("token(#)", x::token, -1, 1, 13);
        Due.due("count(1)", x.count(1), 100);
        x.drop();
        Due.due("token(1)", x.token(1), 1);
    }

    private static void promise7NoTokensAnyMore() {
        Sentence.of("Promise 7", "No tokens any more: how many there were.");
        TablePacker x = new TablePacker();
        Due.due("none: drop()", x.drop(), 0);
        x.token(1);
        Due.due("one: drop()", x.drop(), 1);
        Due.due("again: drop()", x.drop(), 0);
        Due.due("count(1)", x.count(1), 0);
        for (int i = 0; i < 101; i++) {
            x.token(1);
        }
        Due.due("100, and one that was refused: drop()", x.drop(), 100);
        Due.rule(x, 0);
        Due.due("none are parsed: parse(0)", x.parse(0), 0);
        Due.due("rules stay: count(0)", x.count(0), 1);
    }

    private static void promise8ClosedRules() {
        Sentence.of("Promise 8", "How many closed rules (what 0),");
        TablePacker x = new TablePacker();
        Due.due("none: count(0)", x.count(0), 0);
        x.begin(0);
        Due.due("an open one: count(0)", x.count(0), 0);
        x.close();
        Due.due("closed: count(0)", x.count(0), 1);
        for (int rule = 1; rule < 24; rule++) {
            Due.rule(x, 7);
        }
        Due.due("count(0)", x.count(0), 24);
    }

    private static void promise8Tokens() {
        Sentence.of("Promise 8", "tokens (1),");
        TablePacker x = new TablePacker();
        Due.due("none: count(1)", x.count(1), 0);
        for (int i = 0; i < 100; i++) {
            x.token(1);
        }
        Due.due("count(1)", x.count(1), 100);
        Due.rule(x, 0, 1);
        x.parse(0);
        Due.due("a parse takes none away: count(1)", x.count(1), 100);
    }

    private static void promise8States() {
        Sentence.of("Promise 8", "states (2),");
        TablePacker x = new TablePacker();
        Due.due("without rules: count(2)", x.count(2), 2);
        Due.rule(x, 1, 1);
        Due.due("a kind that is not reached has none: count(2)", x.count(2), 2);
        Due.rule(x, 0, 21);
        Due.due("count(2)", x.count(2), 4);
        Due.due("the most: count(2)", Due.hundredStates().count(2), 100);
    }

    private static void promise8Clashes() {
        Sentence.of("Promise 8", "clashes (3),");
        Due.due("none: count(3)", Due.sums().count(3), 0);
        Due.due("none in 100 states: count(3)", Due.hundredStates().count(3), 0);
        TablePacker x = new TablePacker();
        for (int rule = 0; rule < 24; rule++) {
            Due.rule(x, 0, 20, 20, 20, 20, 20, 20);
        }
        Due.due("24 rules behind all, with END alone: count(3)", x.count(3), 23);
        x.clear();
        for (int rule = 0; rule < 10; rule++) {
            Due.rule(x, 0, 21, 1 + rule);
        }
        for (int rule = 0; rule < 3; rule++) {
            Due.rule(x, 0, 21, 11 + rule);
        }
        for (int rule = 0; rule < 11; rule++) {
            Due.rule(x, 1, 9);
        }
        Due.due("11 rules behind all, with each of 13 tokens: count(3)", x.count(3), 130);
    }

    private static void promise8Entries() {
        Sentence.of("Promise 8", "entries (4),");
        TablePacker x = new TablePacker();
        Due.due("accept alone: count(4)", x.count(4), 1);
        Due.rule(x, 0);
        Due.due("a default is none: count(4)", x.count(4), 1);
        Due.due("of states and of kinds: count(4)", Due.sums().count(4), 17);
        Due.due("98 shifts, and accept: count(4)", Due.hundredStates().count(4), 99);
        Due.due("66 times 13 shifts, accept, 65 of kind 0: count(4)", Due.manyEntries().count(4), 924);
    }

    private static void promise8Places() {
        Sentence.of("Promise 8", "places of the table (5),");
        TablePacker x = new TablePacker();
        Due.due("one: count(5)", x.count(5), 1);
        Due.rule(x, 0, 13);
        Due.due("those that are no row's too: count(5)", x.count(5), 14);
        TablePacker large = Due.manyEntries();
        int last = large.count(5) - 1;
        Due.due("all entries have one", last >= 923);
        Due.due("the last one is a row's", large.place(last, 0) >= 0);
        Due.due("there is none behind it", large.place(last + 1, 0), -1);
    }

    private static void promise8KindsThatCanBeEmpty() {
        Sentence.of("Promise 8", "kinds that can be empty, by bits (6) there are;");
        TablePacker x = new TablePacker();
        Due.due("none: count(6)", x.count(6), 0);
        int bits = 0;
        for (int kind = 7; kind >= 0; kind--) {
            Due.rule(x, kind);
            bits |= 1 << kind;
            Due.due("count(6)", x.count(6), bits);
        }
        x.clear();
        for (int kind = 0; kind < 7; kind++) {
            Due.rule(x, kind, 21 + kind, 27);
        }
        Due.due("a kind without rules at the end: count(6)", x.count(6), 0);
        Due.rule(x, 7);
        Due.due("all by the last one: count(6)", x.count(6), 255);
    }

    private static void promise8NoneForOthers() {
        Sentence.of("Promise 8", "NONE for others;");
        TablePacker x = Due.sums();
        Due.each("count(#)", x::count, -1, LEAST, -2, -1, 7, 8, 100, LARGEST);
        TablePacker large = Due.tooLarge();
        Due.each("too large: count(#)", large::count, -1, LEAST, -1, 7, LARGEST);
    }

    private static void promise8FullFor2To5() {
        Sentence.of("Promise 8", "FULL for 2 to 5 when it is too large.");
        TablePacker x = Due.tooLarge();
        x.token(3);
        Due.each("count(#)", x::count, -2, 2, 3, 4, 5);
        Due.due("count(0)", x.count(0), 18);
        Due.due("count(1)", x.count(1), 1);
        Due.due("count(6)", x.count(6), 0);
        Due.rule(x, 7);
        Due.due("count(6)", x.count(6), 1 << 7);
    }

    private static void promise9TokensByBits() {
        Sentence.of("Promise 9", "The tokens that a kind can begin with, by bits;");
        TablePacker x = new TablePacker();
        Due.due("no rules: first(0)", x.first(0), 0);
        Due.rule(x, 7);
        Due.due("empty alone, which is no END: first(7)", x.first(7), 0);
        int bits = 0;
        for (int token = 13; token > 0; token--) {
            Due.rule(x, 7, token, 14 - token);
            bits |= 1 << token;
            Due.due("first(7)", x.first(7), bits);
        }
        Due.rule(x, 0, 27, 27);
        Due.due("through another kind: first(0)", x.first(0), 0x3ffe);
        Due.due("a kind without rules: first(6)", x.first(6), 0);
        TablePacker large = Due.tooLarge();
        Due.due("too large, but told: first(0)", large.first(0), 0x3ffe);
    }

    private static void promise9NoSuchKind() {
        Sentence.of("Promise 9", "NONE when there is no such kind.");
        TablePacker x = Due.sums();
        Due.each("first(#)", x::first, -1, LEAST, -1, 8, 20, LARGEST);
        TablePacker large = Due.tooLarge();
        Due.each("too large: first(#)", large::first, -1, -1, 8);
    }
}
