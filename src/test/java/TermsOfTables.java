/** The sentences of the document's terms on looking ahead and on what comes. */
final class TermsOfTables {
    private TermsOfTables() {
    }

    static void all() {
        leastSetsWithEndForTheStart();
        whatTheRowBehindCanBeginWith();
        ifTheRowBehindCanBeEmptyWhatTheItemHas();
        onePlaceFurtherWhatItHad();
        rowsThatCanBeEmpty();
        whatARowCanBeginWith();
        shift();
        accept();
        reduce();
        allButOneAreClashes();
        shiftOrAcceptGoesBeforeAll();
        thenTheLeastRule();
        ifThereIsNoneAnError();
    }

    private static void leastSetsWithEndForTheStart() {
        Sentence.of("Terms",
            "LOOKING AHEAD: the least sets of tokens for items in states, with: the start in state 0 has END;");
        TablePacker x = new TablePacker();
        Due.due("the start, without rules: ahead(0, 24, 0)", x.ahead(0, 24, 0), 1);
        Due.rule(x, 0, 21);
        Due.rule(x, 1, 21);
        Due.rule(x, 1, 20);
        Due.each("kinds in a ring hand on END alone: ahead(0, #, 0)", rule -> x.ahead(0, rule, 0), 1, 0, 1, 2, 24);
        x.clear();
        Due.rule(x, 0, 21, 22);
        Due.rule(x, 1, 1);
        Due.due("no token at all: ahead(0, 1, 0)", x.ahead(0, 1, 0), 0);
        Due.due("ahead(1, 1, 1)", x.ahead(1, 1, 1), 0);
        Due.due("then nothing comes: comes(1, 0)", x.comes(1, 0), 0);
    }

    private static void whatTheRowBehindCanBeginWith() {
        Sentence.of("Terms", "when an item of a state stands before a kind, and row R is behind that, items of that "
            + "kind's rules have there what R can begin with,");
        TablePacker x = new TablePacker();
        Due.rule(x, 0, 21, 13, 5);
        Due.rule(x, 1, 1);
        Due.due("a token, and not what is behind it, nor END: ahead(0, 1, 0)", x.ahead(0, 1, 0), 1 << 13);
        Due.rule(x, 0, 21, 22, 6);
        Due.rule(x, 2, 7);
        Due.rule(x, 2, 8);
        Due.due("a kind's too, of each such item: ahead(0, 1, 0)", x.ahead(0, 1, 0), 1 << 13 | 1 << 7 | 1 << 8);
        Due.due("the kind behind that: ahead", x.ahead(x.state(0, 121), 3, 0), 1 << 6);
        Due.due("its rules are not in state 0", x.ahead(0, 3, 0), -1);
        x.clear();
        Due.rule(x, 0, 21, 22);
        Due.rule(x, 1, 1, 23, 5);
        Due.rule(x, 3, 7);
        Due.due("an item that has no token itself: ahead(1, 1, 1)", x.ahead(1, 1, 1), 0);
        Due.due("what is behind it all the same: ahead(1, 2, 0)", x.ahead(1, 2, 0), 1 << 5);
        x.clear();
        Due.rule(x, 0, 21);
        Due.rule(x, 0, 22);
        Due.rule(x, 1, 1, 21, 2);
        Due.rule(x, 1, 3);
        Due.rule(x, 2, 1, 4);
        Due.due("a rule at its beginning: ahead(1, 2, 0)", x.ahead(1, 2, 0), 1 << 2);
        Due.due("the same rule further on in that state has what it had: ahead(1, 2, 1)", x.ahead(1, 2, 1), 1);
    }

    private static void ifTheRowBehindCanBeEmptyWhatTheItemHas() {
        Sentence.of("Terms", "and, if R can be empty, what the item has;");
        TablePacker x = new TablePacker();
        Due.rule(x, 0, 21);
        Due.rule(x, 1, 1);
        Due.due("no symbol is behind it: ahead(0, 1, 0)", x.ahead(0, 1, 0), 1);
        x.clear();
        Due.rule(x, 0, 21, 22, 22);
        Due.rule(x, 1, 1);
        Due.rule(x, 2, 6);
        Due.due("kinds that cannot be empty: ahead(0, 1, 0)", x.ahead(0, 1, 0), 1 << 6);
        Due.rule(x, 2);
        Due.due("kinds that can: ahead(0, 1, 0)", x.ahead(0, 1, 0), 1 << 6 | 1);
        x.clear();
        Due.rule(x, 0, 3, 21, 4);
        Due.rule(x, 1, 5, 22);
        Due.rule(x, 2);
        int behind5 = x.state(x.state(0, 103), 105);
        Due.due("what the item has, not END: ahead", x.ahead(behind5, 2, 0), 1 << 4);
    }

    private static void onePlaceFurtherWhatItHad() {
        Sentence.of("Terms", "an item one place further has, in the state to which the symbol leads, what it had.");
        TablePacker x = new TablePacker();
        Due.rule(x, 0, 1, 21, 4);
        Due.rule(x, 0, 2, 21, 5);
        Due.rule(x, 1, 3, 3);
        int one = x.state(0, 101);
        int two = x.state(0, 102);
        Due.due("in the one state", x.ahead(one, 2, 0), 1 << 4);
        Due.due("in the other", x.ahead(two, 2, 0), 1 << 5);
        int both = x.state(one, 103);
        Due.due("both lead to one state", x.state(two, 103), both);
        Due.due("there it has what it had in both", x.ahead(both, 2, 1), 1 << 4 | 1 << 5);
        Due.due("and behind all", x.ahead(x.state(both, 103), 2, 2), 1 << 4 | 1 << 5);
        Due.due("the start too", x.ahead(x.state(0, 120), 24, 1), 1);
        x.clear();
        Due.rule(x, 0, 13, 13, 13, 13, 13, 13);
        int q = 0;
        for (int place = 0; place < 6; place++) {
            Due.due("place " + place + " of 6", x.ahead(q, 0, place), 1);
            q = x.state(q, 113);
        }
        Due.due("place 6 of 6", x.ahead(q, 0, 6), 1);
    }

    private static void rowsThatCanBeEmpty() {
        Sentence.of("Terms", "(A row can be empty, if all of its symbols are kinds that have a rule which can.");
        TablePacker x = new TablePacker();
        Due.rule(x, 7);
        Due.due("a row without symbols: count(6)", x.count(6), 1 << 7);
        Due.rule(x, 2, 27, 27, 27, 27, 27, 27);
        Due.due("six kinds that can: count(6)", x.count(6), 1 << 7 | 1 << 2);
        Due.rule(x, 3, 27, 27, 27, 27, 27, 1);
        Due.due("a token cannot: count(6)", x.count(6), 1 << 7 | 1 << 2);
        Due.rule(x, 4, 24);
        Due.due("nor a kind by itself alone: count(6)", x.count(6), 1 << 7 | 1 << 2);
        Due.rule(x, 5, 27, 26);
        Due.due("nor a kind without rules: count(6)", x.count(6), 1 << 7 | 1 << 2);
        Due.rule(x, 3, 22);
        Due.due("one rule of more is enough: count(6)", x.count(6), 1 << 7 | 1 << 2 | 1 << 3);
        Due.rule(x, 6, 27);
        Due.due("a rule told later counts for those before: count(6)", x.count(6), 0b11101100);
    }

    private static void whatARowCanBeginWith() {
        Sentence.of("Terms", "What it can begin with: a token that it begins with, or what a kind can begin with, "
            + "before which all can be empty.)");
        TablePacker x = new TablePacker();
        Due.rule(x, 0);
        Due.due("an empty row with nothing: first(0)", x.first(0), 0);
        Due.rule(x, 0, 21, 22, 3);
        Due.due("kinds without rules with nothing: first(0)", x.first(0), 0);
        Due.rule(x, 1, 1, 5);
        Due.due("a kind that cannot be empty hides all behind it: first(0)", x.first(0), 1 << 1);
        Due.rule(x, 1);
        Due.rule(x, 2, 13);
        Due.due("one that can does not: first(0)", x.first(0), 1 << 1 | 1 << 13);
        Due.rule(x, 2);
        Due.due("nor two: first(0)", x.first(0), 1 << 1 | 1 << 13 | 1 << 3);
        Due.rule(x, 4, 24, 6);
        Due.due("a kind that begins with itself alone: first(4)", x.first(4), 0);
        Due.rule(x, 4);
        Due.due("and can be empty: first(4)", x.first(4), 1 << 6);
        x.clear();
        Due.rule(x, 0);
        Due.rule(x, 0, 20, 1);
        Due.rule(x, 1, 20, 2);
        Due.rule(x, 0, 3);
        Due.due("a token of a rule told later too: first(1)", x.first(1), 1 << 1 | 1 << 2 | 1 << 3);
    }

    private static void shift() {
        Sentence.of("Terms", "WHAT COMES in a state with a token: SHIFT to the state to which it leads;");
        TablePacker x = new TablePacker();
        Due.rule(x, 0, 1, 20);
        Due.rule(x, 0, 13);
        Due.due("comes(0, 1)", x.comes(0, 1), 1001);
        Due.due("to the state itself: comes(1, 1)", x.comes(1, 1), 1001);
        Due.due("the last token: comes(0, 13)", x.comes(0, 13), 1002);
        Due.due("no token of these: comes(0, 2)", x.comes(0, 2), 0);
        Due.due("a kind is not shifted: state(0, 120) is, comes(0, 0)", x.comes(0, 0), 0);
    }

    private static void accept() {
        Sentence.of("Terms", "ACCEPT, with END, if the start is there behind all;");
        TablePacker x = new TablePacker();
        Due.due("without rules: comes(1, 0)", x.comes(1, 0), 2000);
        for (int token = 1; token < 14; token++) {
            Due.due("with no other token: comes(1, " + token + ")", x.comes(1, token), 0);
        }
        Due.rule(x, 0, 20, 1);
        Due.rule(x, 0);
        int accepting = x.state(0, 120);
        int accepts = 0;
        for (int q = 0; q < x.count(2); q++) {
            accepts += x.comes(q, 0) == 2000 ? 1 : 0;
        }
        Due.due("in one state", accepts, 1);
        Due.due("behind the start", x.comes(accepting, 0), 2000);
        Due.due("beside a shift", x.comes(accepting, 1), 1000 + x.state(accepting, 101));
    }

    private static void reduce() {
        Sentence.of("Terms", "REDUCE by a rule, which is there behind all, if the token is in its item's set.");
        TablePacker x = new TablePacker();
        Due.rule(x, 0, 21, 13);
        Due.rule(x, 0, 21);
        Due.rule(x, 1, 2);
        Due.rule(x, 1);
        int two = x.state(0, 102);
        for (int token = 0; token < 14; token++) {
            boolean inSet = token == 0 || token == 13;
            Due.due("comes(" + two + ", " + token + ")", x.comes(two, token), inSet ? 3002 : 0);
        }
        Due.due("an empty rule is behind all at its beginning: comes(0, 13)", x.comes(0, 13), 3003);
        Due.due("comes(0, 0)", x.comes(0, 0), 3003);
        Due.due("one that is not behind all is no reduction: comes(0, 2)", x.comes(0, 2), 1000 + two);
    }

    private static void allButOneAreClashes() {
        Sentence.of("Terms", "If there are more, all but one are CLASHES:");
        TablePacker x = new TablePacker();
        Due.rule(x, 0, 1);
        Due.due("one alone: count(3)", x.count(3), 0);
        Due.rule(x, 0, 1);
        Due.due("two, with one token: count(3)", x.count(3), 1);
        Due.rule(x, 0, 1);
        Due.due("three: count(3)", x.count(3), 2);
        Due.rule(x, 0, 20, 2);
        Due.due("three, with two tokens: count(3)", x.count(3), 4);
        x.clear();
        for (int rule = 0; rule < 24; rule++) {
            Due.rule(x, 0);
        }
        Due.due("24: count(3)", x.count(3), 23);
    }

    private static void shiftOrAcceptGoesBeforeAll() {
        Sentence.of("Terms", "shift (or accept) goes before all,");
        TablePacker x = new TablePacker();
        Due.rule(x, 1, 1);
        Due.rule(x, 2, 1);
        Due.rule(x, 0, 21, 2);
        Due.rule(x, 0, 22, 2);
        Due.rule(x, 0, 1, 2);
        int one = x.state(0, 101);
        Due.due("shift before two lesser rules", x.comes(one, 2), 1000 + x.state(one, 102));
        Due.due("count(3)", x.count(3), 2);
        x.clear();
        Due.rule(x, 0, 20);
        Due.rule(x, 0, 20);
        Due.due("accept before two rules", x.comes(x.state(0, 120), 0), 2000);
        Due.due("count(3)", x.count(3), 2);
    }

    private static void thenTheLeastRule() {
        Sentence.of("Terms", "then the least rule.");
        TablePacker x = new TablePacker();
        Due.rule(x, 0, 21);
        Due.rule(x, 0, 22);
        Due.rule(x, 2, 1);
        Due.rule(x, 1, 1);
        Due.due("the least rule, not the least kind: comes(1, 0)", x.comes(1, 0), 3002);
        Due.due("count(3)", x.count(3), 1);
        x.clear();
        for (int rule = 0; rule < 24; rule++) {
            Due.rule(x, 0);
        }
        Due.due("of 24: comes(0, 0)", x.comes(0, 0), 3000);
    }

    private static void ifThereIsNoneAnError() {
        Sentence.of("Terms", "If there is none, an ERROR.");
        TablePacker x = new TablePacker();
        for (int token = 0; token < 14; token++) {
            Due.due("without rules: comes(0, " + token + ")", x.comes(0, token), 0);
        }
        Due.rule(x, 0, 21, 3);
        Due.rule(x, 1);
        Due.each("comes(0, #)", token -> x.comes(0, token), 0, 0, 1, 2, 4, 13);
        Due.due("but: comes(0, 3)", x.comes(0, 3), 3001);
    }
}
