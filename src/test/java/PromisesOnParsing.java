/** The sentences of promises 15 to 18: parses, and whether the tables are sound. */
final class PromisesOnParsing {
    private static final int LEAST = Integer.MIN_VALUE;
    private static final int LARGEST = Integer.MAX_VALUE;

    private PromisesOnParsing() {
    }

    static void all() {
        promise15Accepted();
        promise15AnError();
        promise15TooLong();
        promise15NoSuchParser();
        promise15NoRuleOfKind0();
        promise15Full();
        promise16HowManyReductions();
        promise16TheTokenAtWhichItEnded();
        promise16StatesOnThePile();
        promise16WhenThereWasNone();
        promise16NoneForOthers();
        promise17TheRule();
        promise17NoneSuch();
        promise18Sound();
        promise18ItWouldTell0();
    }

    private static void promise15Accepted() {
        Sentence.of("Promise 15", "Parses all tokens: 0 accepted,");
        TablePacker x = new TablePacker();
        Due.rule(x, 0, 20, 1);
        Due.rule(x, 0);
        for (int which = 0; which < 2; which++) {
            x.drop();
            Due.due("no tokens: parse(" + which + ")", x.parse(which), 0);
            x.token(1);
            Due.due("one: parse(" + which + ")", x.parse(which), 0);
            Due.due("the same again: parse(" + which + ")", x.parse(which), 0);
        }
        for (int i = 1; i < 100; i++) {
            x.token(1);
        }
        Due.each("100: parse(#)", x::parse, 0, 0, 1);
        Due.parsed(x, 101, 100, 2);
    }

    private static void promise15AnError() {
        Sentence.of("Promise 15", "1 an error,");
        TablePacker x = Due.sums();
        Due.each("no tokens: parse(#)", x::parse, 1, 0, 1);
        Due.tokens(x, 5, 1);
        Due.each("an error with END: parse(#)", x::parse, 1, 0, 1);
        Due.tokens(x, 5, 5);
        Due.each("an error with the last token: parse(#)", x::parse, 1, 0, 1);
        Due.tokens(x, 13, 5);
        Due.each("an error with the first token: parse(#)", x::parse, 1, 0, 1);
        x.drop();
        for (int i = 0; i < 50; i++) {
            x.token(5);
            x.token(1);
        }
        Due.each("an error behind 100 tokens: parse(#)", x::parse, 1, 0, 1);
        Due.due("parsed(1)", x.parsed(1), 100);
    }

    private static void promise15TooLong() {
        Sentence.of("Promise 15", "2 too long.");
        TablePacker endless = Due.endless();
        Due.each("2000 reductions, and more: parse(#)", endless::parse, 2, 0, 1);
        TablePacker just = Due.parts(83, 1, 2);
        Due.each("just 2000 steps: parse(#)", just::parse, 0, 0, 1);
        TablePacker more = Due.parts(83, 2, 2);
        Due.each("one more: parse(#)", more::parse, 2, 0, 1);
        endless.drop();
        Due.due("not too long any more: parse(0)", endless.parse(0), 0);
    }

    private static void promise15NoSuchParser() {
        Sentence.of("Promise 15", "NONE, and nothing is changed, when there is no such parser,");
        TablePacker x = Due.sums();
        Due.tokens(x, 5);
        x.parse(0);
        Due.tokens(x, 13, 13);
        Due.each("parse(#)", x::parse, -1, LEAST, -1, 2, 3, LARGEST);
        Due.parsed(x, 3, 1, 2);
        Due.reduced(x, 5, 3, 1);
        Due.due("count(1)", x.count(1), 2);
    }

    private static void promise15NoRuleOfKind0() {
        Sentence.of("Promise 15", "or no rule of kind 0;");
        TablePacker x = Due.sums();
        Due.each("before any parse: parse(#)", new TablePacker()::parse, -1, 0, 1);
        Due.tokens(x, 5);
        x.parse(1);
        x.clear();
        Due.each("no rules: parse(#)", x::parse, -1, 0, 1);
        for (int kind = 1; kind < 8; kind++) {
            Due.rule(x, kind, 5);
        }
        Due.each("rules of all other kinds: parse(#)", x::parse, -1, 0, 1);
        x.begin(0);
        x.put(5);
        Due.each("an open one of kind 0: parse(#)", x::parse, -1, 0, 1);
        Due.parsed(x, 3, 1, 2);
        Due.reduced(x, 5, 3, 1);
        Due.due("count(1)", x.count(1), 1);
        x.close();
        Due.each("closed: parse(#)", x::parse, 0, 0, 1);
        Due.reduced(x, 7);
    }

    private static void promise15Full() {
        Sentence.of("Promise 15", "FULL, and nothing is changed, when it is too large.");
        TablePacker x = Due.hundredStates();
        Due.tokens(x, 3, 1, 1, 1, 1, 1);
        Due.each("100 states: parse(#)", x::parse, 0, 0, 1);
        Due.rule(x, 0, 2, 2);
        Due.tokens(x, 2, 2);
        Due.each("101: parse(#)", x::parse, -2, 0, 1);
        Due.parsed(x, 1, 6, 2);
        Due.reduced(x, 2);
        Due.due("count(1)", x.count(1), 2);
        TablePacker fresh = Due.tooLarge();
        Due.each("before any parse: parse(#)", fresh::parse, -2, 0, 1);
        Due.parsed(fresh, 0, 0, 0);
    }

    private static void promise16HowManyReductions() {
        Sentence.of("Promise 16", "Of the latest parse() how many reductions there were (what 0),");
        TablePacker x = new TablePacker();
        Due.rule(x, 0, 1);
        Due.tokens(x, 2);
        x.parse(0);
        Due.due("none: parsed(0)", x.parsed(0), 0);
        Due.tokens(x, 1);
        x.parse(0);
        Due.due("one: parsed(0)", x.parsed(0), 1);
        x.drop();
        x.clear();
        Due.due("till the next parse: parsed(0)", x.parsed(0), 1);
        TablePacker endless = Due.endless();
        endless.parse(0);
        Due.due("the most: parsed(0)", endless.parsed(0), 2000);
        endless.drop();
        endless.parse(0);
        Due.due("the latest one's: parsed(0)", endless.parsed(0), 1);
    }

    private static void promise16TheTokenAtWhichItEnded() {
        Sentence.of("Promise 16", "the number of the token at which it ended (1),");
        TablePacker x = new TablePacker();
        Due.rule(x, 0, 1, 2, 3);
        int[][] rows = {{2}, {1, 1}, {1, 2, 2}, {1, 2, 3, 1}, {1, 2, 3}, {1, 2}, {}};
        int[] ends = {0, 1, 2, 3, 3, 2, 0};
        for (int i = 0; i < rows.length; i++) {
            Due.tokens(x, rows[i]);
            x.parse(0);
            Due.due("row " + i + ": parsed(1)", x.parsed(1), ends[i]);
        }
        TablePacker endless = Due.endless();
        endless.parse(1);
        Due.due("too long, at the first: parsed(1)", endless.parsed(1), 0);
    }

    private static void promise16StatesOnThePile() {
        Sentence.of("Promise 16", "how many states are on the pile (2);");
        TablePacker x = new TablePacker();
        Due.rule(x, 0, 1, 20);
        Due.rule(x, 0, 2);
        Due.tokens(x, 3);
        x.parse(0);
        Due.due("state 0 alone: parsed(2)", x.parsed(2), 1);
        Due.tokens(x, 1, 1, 2);
        x.parse(0);
        Due.due("accepted: parsed(2)", x.parsed(2), 2);
        x.drop();
        for (int i = 0; i < 100; i++) {
            x.token(1);
        }
        x.parse(0);
        Due.due("100 shifts: parsed(2)", x.parsed(2), 101);
        TablePacker endless = Due.endless();
        endless.parse(0);
        Due.due("the most: parsed(2)", endless.parsed(2), 2001);
    }

    private static void promise16WhenThereWasNone() {
        Sentence.of("Promise 16", "0 when there was none;");
        TablePacker x = new TablePacker();
        Due.parsed(x, 0, 0, 0);
        x.parse(0);
        x.parse(2);
        Due.parsed(x, 0, 0, 0);
        Due.rule(x, 0, 1);
        Due.parsed(x, 0, 0, 0);
        x.parse(0);
        Due.parsed(x, 0, 0, 1);
    }

    private static void promise16NoneForOthers() {
        Sentence.of("Promise 16", "NONE for others.");
        TablePacker x = Due.sums();
        Due.each("before any parse: parsed(#)", x::parsed, -1, LEAST, -1, 3, LARGEST);
        Due.tokens(x, 5);
        x.parse(0);
        Due.each("parsed(#)", x::parsed, -1, LEAST, -1, 3, 100, LARGEST);
    }

    private static void promise17TheRule() {
        Sentence.of("Promise 17", "The rule of reduction k of the latest parse(), counted from 0;");
        TablePacker x = Due.sums();
        Due.tokens(x, 3, 5, 4);
        x.parse(0);
        Due.reduced(x, 5, 3, 1, 4, 3, 1);
        x.clear();
        x.drop();
        Due.reduced(x, 5, 3, 1, 4, 3, 1);
        TablePacker endless = Due.endless();
        endless.parse(0);
        Due.each("reduction(#)", endless::reduction, 0, 0, 1, 1998, 1999);
        endless.drop();
        endless.parse(1);
        Due.due("of the latest: reduction(0)", endless.reduction(0), 2);
        x = new TablePacker();
        for (int rule = 0; rule < 23; rule++) {
            Due.rule(x, 1, 1);
        }
        Due.rule(x, 0, 2);
        x.token(2);
        x.parse(1);
        Due.reduced(x, 23);
    }

    private static void promise17NoneSuch() {
        Sentence.of("Promise 17", "NONE when there is none such.");
        TablePacker x = Due.sums();
        Due.each("before any parse: reduction(#)", x::reduction, -1, LEAST, -1, 0, 1, LARGEST);
        Due.tokens(x, 5);
        x.parse(0);
        Due.each("reduction(#)", x::reduction, -1, LEAST, -1, 3, 4, 2000, LARGEST);
        Due.tokens(x, 13);
        x.parse(0);
        Due.each("without reductions: reduction(#)", x::reduction, -1, -1, 0, 1, 2);
        TablePacker endless = Due.endless();
        endless.parse(0);
        Due.each("reduction(#)", endless::reduction, -1, -1, 2000, 2001);
        endless.drop();
        endless.parse(0);
        Due.each("those of an earlier parse: reduction(#)", endless::reduction, -1, 1, 1999);
    }

    private static void promise18Sound() {
        Sentence.of("Promise 18", "Whether no two rows share a place, and each entry is found where its row tells, "
            + "all others not: 1;");
        TablePacker[] all = {new TablePacker(), Due.sums(), Due.hundredStates(), Due.tooLarge(), Due.parts(0),
            Due.endless(), Due.manyEntries()};
        for (int i = 0; i < all.length; i++) {
            Due.due("grammar " + i + ": check()", all[i].check(), 1);
        }
        TablePacker x = Due.tooLarge();
        x.clear();
        Due.due("behind one that was too large: check()", x.check(), 1);
        x.begin(0);
        Due.due("with an open rule: check()", x.check(), 1);
    }

    // No call makes tables that are not sound, so they are broken from inside, one number at a time.
    private static void promise18ItWouldTell0() {
        Sentence.of("Promise 18", "it would tell 0.");
        for (TablePacker x : new TablePacker[] {new TablePacker(), Due.sums(), Due.parts(0)}) {
            Due.due("check()", x.check(), 1);
            int[] places = Inside.numbers(x, "packed", "places");
            int[] bases = Inside.numbers(x, "packed", "bases");
            int length = x.count(5);
            for (int k = 0; k < length; k++) {
                if (x.place(k, 0) != -1) {
                    told0WithOther(x, "an entry that is not found, place " + k, places, k, -1);
                    told0WithOther(x, "another entry, place " + k, places, k, places[k] ^ 1);
                    told0WithOther(x, "a place of another row, place " + k, places, k, places[k] ^ 1 << 12);
                }
            }
            for (int r = 0; r < bases.length; r++) {
                if (x.row(r, 1) > 0) {
                    told0WithOther(x, "another base, row " + r, bases, r, bases[r] + 1);
                    told0WithOther(x, "no base, row " + r, bases, r, -1);
                }
            }
            Due.due("as it was again: check()", x.check(), 1);
        }
        oneThatIsNoEntryIsFound();
    }

    private static void oneThatIsNoEntryIsFound() {
        TablePacker x = new TablePacker();
        Due.rule(x, 0, 13);
        Due.due("place 5 is no row's: place(5, 0)", x.place(5, 0), -1);
        int[] places = Inside.numbers(x, "packed", "places");
        told0WithOther(x, "token 5 of row 0 is no entry, but found", places, 5, 1001);
        Due.due("check()", x.check(), 1);
        places[5] = 1001;
        Due.rule(x, 0, 12);
        Due.due("one rule more, and the tables are made anew: check()", x.check(), 1);
    }

    private static void told0WithOther(TablePacker x, String what, int[] numbers, int at, int other) {
        int before = numbers[at];
        numbers[at] = other;
        Due.due(what + ": check()", x.check(), 0);
        numbers[at] = before;
    }
}
