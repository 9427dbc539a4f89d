/** The sentences of the document's terms on the parsers and on the constants. */
final class TermsOfParsers {
    private TermsOfParsers() {
    }

    static void all() {
        atFirstJustState0();
        theTokensAndEndBehindThem();
        thePlainOneDoesWhatComes();
        whatIsNoEntryIsAReductionByTheDefault();
        orElseAnError();
        shiftGoesToTheNextToken();
        aReductionTakesNStatesOff();
        acceptAnErrorOr2000();
        whenOneMoreWouldCome();
        none();
        full();
    }

    private static void atFirstJustState0() {
        Sentence.of("Terms", "PARSERS: a pile of states, at first just state 0,");
        TablePacker x = new TablePacker();
        Due.rule(x, 0, 1);
        Due.tokens(x, 2);
        for (int which = 0; which < 2; which++) {
            Due.due("an error in state 0: parse(" + which + ")", x.parse(which), 1);
            Due.parsed(x, 0, 0, 1);
        }
        Due.tokens(x, 1);
        x.parse(0);
        Due.tokens(x, 2);
        Due.due("nothing is left of an earlier parse: parse(0)", x.parse(0), 1);
        Due.parsed(x, 0, 0, 1);
    }

    private static void theTokensAndEndBehindThem() {
        Sentence.of("Terms", "and the tokens, END behind them.");
        TablePacker x = new TablePacker();
        Due.rule(x, 0);
        Due.rule(x, 0, 20, 1);
        Due.due("no token but END: parse(0)", x.parse(0), 0);
        Due.parsed(x, 1, 0, 2);
        for (int i = 0; i < 100; i++) {
            x.token(1);
        }
        Due.due("100 tokens: parse(0)", x.parse(0), 0);
        Due.parsed(x, 101, 100, 2);
        x.drop();
        x.token(1);
        Due.due("fewer again: parse(0)", x.parse(0), 0);
        Due.parsed(x, 2, 1, 2);
    }

    private static void thePlainOneDoesWhatComes() {
        Sentence.of("Terms", "The plain one (0) does what comes;");
        TablePacker x = Due.sums();
        Due.tokens(x, 5, 3);
        Due.due("an error is found before any reduction: parse(0)", x.parse(0), 1);
        Due.parsed(x, 0, 1, 2);
        Due.tokens(x, 5, 1, 5);
        Due.due("parse(0)", x.parse(0), 0);
        Due.reduced(x, 5, 3, 1, 5, 3, 0);
    }

    private static void whatIsNoEntryIsAReductionByTheDefault() {
        Sentence.of("Terms", "the packed one (1) likewise, but what is no entry is a reduction by the state's default, "
            + "if it has one,");
        TablePacker x = Due.sums();
        Due.tokens(x, 5, 1, 5);
        Due.due("likewise: parse(1)", x.parse(1), 0);
        Due.reduced(x, 5, 3, 1, 5, 3, 0);
        Due.tokens(x, 5, 3);
        Due.due("reductions before the error is found: parse(1)", x.parse(1), 1);
        Due.parsed(x, 3, 1, 2);
        Due.reduced(x, 5, 3, 1);
    }

    private static void orElseAnError() {
        Sentence.of("Terms", "or else an error.");
        TablePacker x = Due.sums();
        Due.tokens(x, 13);
        Due.due("state 0 has no default: parse(1)", x.parse(1), 1);
        Due.parsed(x, 0, 0, 1);
        x.drop();
        Due.due("nor with END: parse(1)", x.parse(1), 1);
        Due.parsed(x, 0, 0, 1);
        x.clear();
        Due.rule(x, 0, 1);
        Due.rule(x, 0, 2, 3);
        Due.tokens(x, 2, 9);
        Due.due("nor has the state behind 2: parse(1)", x.parse(1), 1);
        Due.parsed(x, 0, 1, 2);
    }

    private static void shiftGoesToTheNextToken() {
        Sentence.of("Terms", "Shift puts the state on and goes to the next token;");
        TablePacker x = new TablePacker();
        Due.rule(x, 0, 1, 2, 3);
        int[] tokens = {1, 2};
        for (int i = 0; i < tokens.length; i++) {
            x.token(tokens[i]);
            Due.due("parse(0) of " + (i + 1), x.parse(0), 1);
            Due.parsed(x, 0, i + 1, i + 2);
        }
        x.token(3);
        Due.due("parse(0) of 3", x.parse(0), 0);
        Due.parsed(x, 1, 3, 2);
    }

    private static void aReductionTakesNStatesOff() {
        Sentence.of("Terms", "a reduction by a rule with n symbols takes n states off, and puts that on to which its "
            + "kind leads from the state that is on top then.");
        TablePacker x = new TablePacker();
        Due.rule(x, 0, 1, 1, 1, 1, 1, 1);
        Due.tokens(x, 1, 1, 1, 1, 1, 1);
        Due.due("6 symbols: parse(0)", x.parse(0), 0);
        Due.parsed(x, 1, 6, 2);
        x.clear();
        Due.rule(x, 0, 21, 21, 21, 5);
        Due.rule(x, 1);
        x.drop();
        Due.due("no symbols: parse(1)", x.parse(1), 1);
        Due.parsed(x, 3, 0, 4);
        x.token(5);
        Due.due("parse(1)", x.parse(1), 0);
        Due.parsed(x, 4, 1, 2);
        x.clear();
        Due.rule(x, 0, 1, 21, 4);
        Due.rule(x, 0, 2, 21, 5);
        Due.rule(x, 1, 3);
        Due.tokens(x, 2, 3, 5);
        for (int which = 0; which < 2; which++) {
            Due.due("from the state behind 2, not behind 1: parse(" + which + ")", x.parse(which), 0);
            Due.reduced(x, 2, 1);
        }
    }

    private static void acceptAnErrorOr2000() {
        Sentence.of("Terms", "They end with accept, an error, or after 2000 shifts and reductions,");
        for (int which = 0; which < 2; which++) {
            TablePacker x = Due.parts(83, 1, 2);
            Due.due("accept after 2000: parse(" + which + ")", x.parse(which), 0);
            Due.parsed(x, 1915, 85, 2);
            x = Due.parts(83, 1, 1, 5);
            Due.due("an error after 2000: parse(" + which + ")", x.parse(which), 1);
            Due.parsed(x, 1914, 86, 3);
            x = Due.endless();
            Due.due("2000 reductions: parse(" + which + ")", x.parse(which), 2);
            Due.parsed(x, 2000, 0, 2001);
        }
    }

    private static void whenOneMoreWouldCome() {
        Sentence.of("Terms", "when one more would come.");
        for (int which = 0; which < 2; which++) {
            TablePacker x = Due.parts(83, 2, 2);
            Due.due("a reduction more: parse(" + which + ")", x.parse(which), 2);
            Due.parsed(x, 1915, 85, 3);
            x = Due.parts(83, 1, 2, 1);
            Due.due("a shift more: parse(" + which + ")", x.parse(which), 2);
            Due.parsed(x, 1915, 85, 2);
        }
    }

    private static void none() {
        Sentence.of("Terms", "The constants: `NONE = -1`: There is none, or nothing is done.");
        Due.due("NONE", TablePacker.NONE, -1);
        TablePacker x = new TablePacker();
        Due.due("there is none: reduction(0)", x.reduction(0), TablePacker.NONE);
        x.begin(0);
        x.put(1);
        Due.due("nothing is done: begin(1)", x.begin(1), TablePacker.NONE);
        Due.due("put(0)", x.put(0), TablePacker.NONE);
        Due.due("token(14)", x.token(14), TablePacker.NONE);
        Due.due("put(2)", x.put(2), 2);
        x.close();
        Due.due("count(0)", x.count(0), 1);
        Due.due("the rule is of kind 0 still: first(0)", x.first(0), 2);
        Due.due("count(1)", x.count(1), 0);
    }

    private static void full() {
        Sentence.of("Terms", "`FULL = -2`: The grammar is too large.");
        Due.due("FULL", TablePacker.FULL, -2);
        Due.due("100 states: count(2)", Due.hundredStates().count(2), 100);
        Due.due("101 states: count(2)", Due.tooLarge().count(2), TablePacker.FULL);
    }
}
