/** The sentences of the document's terms on the packed tables. */
final class TermsOfPacking {
    private TermsOfPacking() {
    }

    static void all() {
        theRuleWithTheMostTokens();
        theLeastOneOfThose();
        noneIfItReducesWithNone();
        entriesOfStates();
        defaultsOfKinds();
        theLeastStateOfThose();
        entriesOfKinds();
        rowsWithEntriesGetBases();
        thoseWithMoreEntriesFirst();
        statesBeforeKindsThenLesserNumbers();
        theLeastNumberFrom0On();
        theirPlacesAreTheirOwn();
        asLongAsTheLastPlaceTells();
    }

    /** In its state 1, behind token 1, rules 3 (with token 3) and 4 (with tokens 4 and 5) stand behind all. */
    private static TablePacker twoReductions() {
        TablePacker x = new TablePacker();
        Due.rule(x, 0, 21, 3);
        Due.rule(x, 0, 22, 4);
        Due.rule(x, 0, 22, 5);
        Due.rule(x, 1, 1);
        Due.rule(x, 2, 1);
        return x;
    }

    private static void theRuleWithTheMostTokens() {
        Sentence.of("Terms", "PACKED: a state's DEFAULT is the rule by which it reduces with the most tokens");
        TablePacker x = twoReductions();
        Due.due("two tokens against one: row(1, 0)", x.row(1, 0), 4);
        x.clear();
        Due.rule(x, 0, 21, 3);
        Due.rule(x, 0, 21, 4);
        Due.rule(x, 0, 22, 3);
        Due.rule(x, 0, 22, 4);
        Due.rule(x, 0, 22, 5);
        Due.rule(x, 1, 1);
        Due.rule(x, 2, 1);
        Due.due("the set of rule 6 has three tokens", Integer.bitCount(x.ahead(1, 6, 1)), 3);
        Due.due("but with two of them rule 5 comes: row(1, 0)", x.row(1, 0), 5);
    }

    private static void theLeastOneOfThose() {
        Sentence.of("Terms", "(the least one of those),");
        TablePacker x = twoReductions();
        Due.rule(x, 0, 21, 6);
        Due.due("two tokens each: row(1, 0)", x.row(1, 0), 3);
        Due.rule(x, 0, 22, 7);
        Due.due("three against two: row(1, 0)", x.row(1, 0), 4);
    }

    private static void noneIfItReducesWithNone() {
        Sentence.of("Terms", "none, if it reduces with none;");
        TablePacker x = new TablePacker();
        Due.rule(x, 0, 21, 2);
        Due.rule(x, 0, 1, 2);
        Due.rule(x, 1, 1);
        Due.due("it shifts only: row(0, 0)", x.row(0, 0), -1);
        Due.due("rule 2 is behind all, but shift goes before it: row(1, 0)", x.row(1, 0), -1);
        Due.due("it accepts only: row(2, 0)", x.row(x.state(0, 120), 0), -1);
        x.clear();
        Due.rule(x, 0, 21, 22);
        Due.rule(x, 1, 1);
        Due.due("the set of rule 1 is empty: row(1, 0)", x.row(1, 0), -1);
        Due.due("row(1, 1)", x.row(1, 1), 0);
    }

    private static void entriesOfStates() {
        Sentence.of("Terms", "its ENTRIES: tokens with which it shifts, accepts, or reduces by another rule.");
        TablePacker x = twoReductions();
        Due.due("it reduces by another rule with 3: row(1, 1)", x.row(1, 1), 1);
        int base = x.row(1, 2);
        Due.place(x, base + 3, 1, 3003);
        Due.due("reductions by the default are none", x.place(base + 4, 0) != 1 && x.place(base + 5, 0) != 1);
        Due.rule(x, 0, 1, 6);
        Due.due("and shifts with 6: row(1, 1)", x.row(1, 1), 2);
        x.clear();
        Due.rule(x, 0, 20, 1);
        Due.rule(x, 0, 20);
        Due.rule(x, 0, 2);
        int accepting = x.state(0, 120);
        Due.due("it accepts, and shifts with 1: row(" + accepting + ", 1)", x.row(accepting, 1), 2);
        Due.due("what clashes is no entry: count(3)", x.count(3), 2);
        Due.due("an error is no entry: row(0, 1)", x.row(0, 1), 1);
    }

    /** Kind 1 leads from states 0 and 1 (behind token 1) to others, from states 2 and 3 (behind 2, 3) as told. */
    private static TablePacker kindLeading(int first, int second) {
        TablePacker x = new TablePacker();
        Due.rule(x, 0, 21);
        Due.rule(x, 0, 1, 21);
        Due.rule(x, 0, 2, first);
        Due.rule(x, 0, 3, second);
        Due.rule(x, 1, 4);
        return x;
    }

    private static void defaultsOfKinds() {
        Sentence.of("Terms", "A kind's default is the state to which it leads from the most states");
        TablePacker x = new TablePacker();
        Due.rule(x, 0, 21);
        Due.rule(x, 1, 2, 21);
        Due.rule(x, 1, 3);
        Due.due("once to state 4, once to state 6: row(101, 0)", x.row(101, 0), 4);
        Due.rule(x, 0, 2, 5);
        Due.each("from two states to state 7: state(#, 121)", q -> x.state(q, 121), 7, 1, 5);
        Due.due("from one to the lesser state 4: state(0, 121)", x.state(0, 121), 4);
        Due.row(x, 101, 7, 1, x.row(101, 2));
        Due.due("from one state alone: row(100, 0)", x.row(100, 0), 3);
        Due.due("a kind that leads nowhere has none: row(107, 0)", x.row(107, 0), -1);
    }

    private static void theLeastStateOfThose() {
        Sentence.of("Terms", "leads from the most states (the least one of those);");
        TablePacker x = kindLeading(5, 5);
        int fromZero = x.state(0, 121);
        int fromOne = x.state(x.state(0, 101), 121);
        Due.due("two states, from one each", fromZero < fromOne);
        Due.due("row(101, 0)", x.row(101, 0), fromZero);
        TablePacker y = kindLeading(21, 21);
        Due.due("four states, from one each: row(101, 0)", y.row(101, 0), y.state(0, 121));
        Due.due("row(101, 1)", y.row(101, 1), 3);
    }

    private static void entriesOfKinds() {
        Sentence.of("Terms", "its entries: states from which it leads to another one.");
        TablePacker x = kindLeading(21, 5);
        Due.due("from states 1 and 2 to others than from state 0: row(101, 1)", x.row(101, 1), 2);
        int base = x.row(101, 2);
        Due.place(x, base + 1, 101, x.state(1, 121));
        Due.place(x, base + 2, 101, x.state(2, 121));
        Due.due("state 0 is no entry", x.place(base, 0) != 101);
        Due.due("nor state 3, from which it leads nowhere", x.place(base + 3, 0) != 101);
        Due.due("kind 0 leads from state 0 only: row(100, 1)", x.row(100, 1), 0);
        Due.due("a kind that leads nowhere: row(107, 1)", x.row(107, 1), 0);
    }

    private static void rowsWithEntriesGetBases() {
        Sentence.of("Terms", "ROWS with entries (of states by tokens, of kinds by states) get BASES:");
        TablePacker x = new TablePacker();
        Due.rule(x, 0, 21);
        Due.rule(x, 0, 1, 21);
        Due.rule(x, 1, 2);
        Due.row(x, 0, -1, 2, 0);
        Due.row(x, 2, 2, 0, -1);
        Due.row(x, 100, 3, 0, -1);
        Due.row(x, 101, 4, 1, 3);
        Due.due("a state's entry by its token: place(0 + 1, 1)", x.place(1, 1), 1001);
        Due.due("a kind's entry by its state: place(3 + 1, 1)", x.place(4, 1), 5);
    }

    private static void thoseWithMoreEntriesFirst() {
        Sentence.of("Terms", "those with more entries first,");
        TablePacker x = new TablePacker();
        Due.rule(x, 0, 1, 21);
        Due.rule(x, 1, 1);
        Due.rule(x, 1, 2);
        Due.row(x, 1, -1, 2, 0);
        Due.row(x, 0, -1, 1, 2);
        x.clear();
        Due.rule(x, 0, 1, 21, 1);
        Due.rule(x, 0, 2, 21, 2);
        Due.rule(x, 0, 3, 21, 3);
        Due.rule(x, 1, 4);
        Due.row(x, 0, -1, 3, 0);
        Due.row(x, 101, 6, 2, 2);
        Due.row(x, 1, -1, 1, 2);
    }

    private static void statesBeforeKindsThenLesserNumbers() {
        Sentence.of("Terms", "of as many states' before kinds', then lesser numbers;");
        TablePacker x = new TablePacker();
        Due.rule(x, 0, 21);
        Due.rule(x, 0, 1, 21);
        Due.rule(x, 1, 2);
        Due.row(x, 1, -1, 1, 1);
        Due.row(x, 101, 4, 1, 3);
        x = Due.sums();
        Due.row(x, 0, -1, 2, 0);
        Due.row(x, 1, -1, 2, 1);
        Due.row(x, 100, 3, 1, 12);
        Due.row(x, 101, 4, 1, 8);
        Due.row(x, 102, 5, 1, 8);
    }

    /** Its rows fill all gaps: row 0 has places 1 and 3, row 1 4 and 5, row 2 6 and 7, row 3 0, row 101 2. */
    private static TablePacker gaps() {
        TablePacker x = new TablePacker();
        Due.rule(x, 0, 1, 21);
        Due.rule(x, 0, 3, 21);
        Due.rule(x, 1, 2);
        Due.rule(x, 1, 3);
        return x;
    }

    private static void theLeastNumberFrom0On() {
        Sentence.of("Terms", "each the least number from 0 on with which all places of its entries (base and token, "
            + "or state) are free in the table;");
        TablePacker x = gaps();
        Due.row(x, 0, -1, 2, 0);
        Due.row(x, 1, -1, 2, 2);
        Due.row(x, 2, -1, 2, 4);
        Due.row(x, 3, -1, 1, 0);
        Due.row(x, 101, 6, 1, 0);
        x.clear();
        Due.rule(x, 0, 13);
        Due.row(x, 0, -1, 1, 0);
        Due.row(x, x.state(0, 120), -1, 1, 0);
    }

    private static void theirPlacesAreTheirOwn() {
        Sentence.of("Terms", "these are its own then.");
        TablePacker x = gaps();
        int[] owners = {3, 0, 101, 0, 1, 1, 2, 2};
        int[] entries = {2000, 1001, 7, 1002, 1004, 1005, 1004, 1005};
        for (int k = 0; k < owners.length; k++) {
            Due.place(x, k, owners[k], entries[k]);
        }
        Due.due("check()", x.check(), 1);
    }

    private static void asLongAsTheLastPlaceTells() {
        Sentence.of("Terms", "The table is as long as its last place of all tells.");
        TablePacker x = new TablePacker();
        Due.due("accept alone, at place 0: count(5)", x.count(5), 1);
        Due.due("gaps are filled: count(5)", gaps().count(5), 8);
        Due.rule(x, 0, 13);
        Due.due("the last place is 13, though there are two entries: count(5)", x.count(5), 14);
        Due.due("count(4)", x.count(4), 2);
        Due.place(x, 13, 0, 1001);
        Due.place(x, 14, -1, -1);
    }
}
