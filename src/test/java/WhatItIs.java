/** The sentences of the document's section 'What it is'. */
final class WhatItIs {
    private static final String SECTION = "What it is";

    private WhatItIs() {
    }

    static void all() {
        looksOneTokenAhead();
        statesWithTheSameItemsAreOne();
        packedIntoOneRow();
        parsedByBoth();
        atMost512Calls();
        laterCalls();
    }

    /** Kind 0: kind 1, token 1, kind 2, or kind 2 alone; kind 1: token 2, kind 2, or token 3; kind 2: kind 1. */
    private static TablePacker assignments() {
        TablePacker x = new TablePacker();
        Due.rule(x, 0, 21, 1, 22);
        Due.rule(x, 0, 22);
        Due.rule(x, 1, 2, 22);
        Due.rule(x, 1, 3);
        Due.rule(x, 2, 21);
        return x;
    }

    private static void looksOneTokenAhead() {
        Sentence.of(SECTION, "Grammars made into tables of a parser that looks one token ahead: states, what comes next "
            + "in each,");
        TablePacker x = assignments();
        Due.due("count(2)", x.count(2), 10);
        int behindKind1 = x.state(0, 121);
        Due.due("token 1 can follow kind 2, but not here, so it is shifted", x.comes(behindKind1, 1),
            1000 + x.state(behindKind1, 101));
        Due.due("END is behind kind 2 here", x.comes(behindKind1, 0), 3004);
        Due.due("with one token ahead nothing clashes: count(3)", x.count(3), 0);
    }

    private static void statesWithTheSameItemsAreOne() {
        Sentence.of(SECTION, "clashes;");
        TablePacker x = new TablePacker();
        Due.rule(x, 0, 1, 21, 3);
        Due.rule(x, 0, 1, 22, 4);
        Due.rule(x, 0, 2, 21, 4);
        Due.rule(x, 0, 2, 22, 3);
        Due.rule(x, 1, 5);
        Due.rule(x, 2, 5);
        int one = x.state(x.state(0, 101), 105);
        Due.due("the same items behind 1 and behind 2", x.state(x.state(0, 102), 105), one);
        Due.each("so each rule looks ahead for both", rule -> x.ahead(one, rule, 1), 1 << 3 | 1 << 4, 4, 5);
        Due.due("and they clash: count(3)", x.count(3), 2);
    }

    private static void packedIntoOneRow() {
        Sentence.of(SECTION, "the tables packed into one row, with what is most common in a state told for all of it;");
        TablePacker x = assignments();
        int known = 0;
        for (int q = 0; q < 10; q++) {
            for (int token = 0; token < 14; token++) {
                known += x.comes(q, token) == 0 ? 0 : 1;
            }
        }
        int defaults = 0;
        for (int q = 0; q < 10; q++) {
            defaults += x.row(q, 0) == -1 ? 0 : 1;
        }
        Due.due("what comes, and is no error", known, 17);
        Due.due("states with a default, which stands for 9 of these", defaults, 6);
        Due.due("8 entries of states, 1 of kind 1, 2 of kind 2: count(4)", x.count(4), 11);
        Due.due("in one row: count(5)", x.count(5) < known);
    }

    private static void parsedByBoth() {
        Sentence.of(SECTION, "rows of tokens parsed by both.");
        TablePacker x = assignments();
        Due.tokens(x, 2, 3, 1, 3);
        for (int which = 0; which < 2; which++) {
            Due.due("parse(" + which + ")", x.parse(which), 0);
            Due.reduced(x, 3, 4, 2, 3, 4, 0);
            Due.parsed(x, 6, 4, 2);
        }
        Due.tokens(x, 3, 1, 3, 1);
        for (int which = 0; which < 2; which++) {
            Due.due("one more 1: parse(" + which + ")", x.parse(which), 1);
            Due.due("parsed(1)", x.parsed(1), 3);
        }
    }

    private static void atMost512Calls() {
        Sentence.of(SECTION, "An object is used for at most 512 calls after it has been made;");
        TablePacker x = new TablePacker();
        for (int i = 1; i <= 511; i++) {
            Due.due("call " + i + ": clear()", x.clear(), 0);
        }
        Due.due("call 512: count(2)", x.count(2), 2);
        x = Due.sums();
        int calls = 6 * 2 + 12;
        for (int i = calls + 1; i <= 512; i++) {
            Due.due("call " + i + ": count(5)", x.count(5), 17);
        }
    }

    // What they answer is free, but rule 7 of the language holds for them too: they answer.
    private static void laterCalls() {
        Sentence.of(SECTION, "what later calls answer is free.");
        TablePacker x = new TablePacker();
        int answered = 0;
        for (int i = 1; i <= 3000; i++) {
            int answer = i % 3 == 0 ? x.begin(0) : i % 3 == 1 ? x.close() : x.parse(i & 1) + x.token(1) + x.check();
            answered += answer == answer ? 1 : 0;
        }
        Due.due("calls that answered", answered, 3000);
    }
}
