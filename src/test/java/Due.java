import java.util.function.IntUnaryOperator;

/** What the tests share: answers that are due, and grammars in short form. */
final class Due {
    private static int asked = 0;
    private static int wrong = 0;
    private static String about = "";

    private Due() {
    }

    /** What the answers that follow are about: it is told with those that are not as due. */
    static void about(String what) {
        about = what.isEmpty() ? "" : what + ": ";
    }

    static void due(String call, int got, int want) {
        asked++;
        if (got != want) {
            wrong++;
            System.out.println(about + call + " answered " + got + ", due is " + want);
        }
    }

    static void due(String what, boolean holds) {
        asked++;
        if (!holds) {
            wrong++;
            System.out.println(about + "does not hold: " + what);
        }
    }

    /** One answer that is due to a call with each of some arguments; # stands for them in its name. */
    static void each(String call, IntUnaryOperator asking, int want, int... arguments) {
        for (int argument : arguments) {
            due(call.replace("#", Integer.toString(argument)), asking.applyAsInt(argument), want);
        }
    }

    static void row(TablePacker x, int r, int byDefault, int entries, int base) {
        due("row(" + r + ", 0)", x.row(r, 0), byDefault);
        due("row(" + r + ", 1)", x.row(r, 1), entries);
        due("row(" + r + ", 2)", x.row(r, 2), base);
    }

    static void place(TablePacker x, int k, int owner, int entry) {
        due("place(" + k + ", 0)", x.place(k, 0), owner);
        due("place(" + k + ", 1)", x.place(k, 1), entry);
    }

    static void parsed(TablePacker x, int reductions, int at, int pile) {
        due("parsed(0)", x.parsed(0), reductions);
        due("parsed(1)", x.parsed(1), at);
        due("parsed(2)", x.parsed(2), pile);
    }

    /** All reductions of the latest parse. */
    static void reduced(TablePacker x, int... rules) {
        due("parsed(0)", x.parsed(0), rules.length);
        for (int k = 0; k < rules.length; k++) {
            due("reduction(" + k + ")", x.reduction(k), rules[k]);
        }
        due("reduction(" + rules.length + ")", x.reduction(rules.length), -1);
    }

    /** Ends a test: with exit code 1 if an answer was not the one that is due. */
    static void end() {
        System.out.println(asked + " answers, " + wrong + " not as due");
        if (wrong != 0 || asked == 0) {
            System.exit(1);
        }
    }

    static void rule(TablePacker x, int kind, int... symbols) {
        x.begin(kind);
        for (int symbol : symbols) {
            x.put(symbol);
        }
        x.close();
    }

    static void tokens(TablePacker x, int... tokens) {
        x.drop();
        for (int token : tokens) {
            x.token(token);
        }
    }

    /** Sums with products: kind 0 of kinds 1, joined by 1; kind 1 of kinds 2, by 2; kind 2: 3 .. 4, or 5. */
    static TablePacker sums() {
        TablePacker x = new TablePacker();
        rule(x, 0, 20, 1, 21);
        rule(x, 0, 21);
        rule(x, 1, 21, 2, 22);
        rule(x, 1, 22);
        rule(x, 2, 3, 20, 4);
        rule(x, 2, 5);
        return x;
    }

    /**
     * Rules of kind 0 whose rows have so many beginnings that there are just 100 states: the start,
     * the end, and 98 beginnings: 13 rows of 6 that begin otherwise, 4 more rows with 5 new ones each.
     */
    static TablePacker hundredStates() {
        TablePacker x = new TablePacker();
        for (int t = 1; t <= 13; t++) {
            rule(x, 0, t, 1, 1, 1, 1, 1);
        }
        for (int t = 2; t <= 5; t++) {
            rule(x, 0, 1, t, 1, 1, 1, 1);
        }
        return x;
    }

    /** One state more than there may be. */
    static TablePacker tooLarge() {
        TablePacker x = hundredStates();
        rule(x, 0, 2, 2);
        return x;
    }

    /**
     * Tokens that a parser takes 24 steps for, as often as told, then others: 3 steps for a 1, 4 for a 2; one
     * step more for all. A 5 is an error at once, but for the shift.
     */
    static TablePacker parts(int long24, int... others) {
        TablePacker x = new TablePacker();
        rule(x, 0, 20, 21);
        rule(x, 0);
        rule(x, 1, 1);
        rule(x, 1, 2, 23);
        rule(x, 1, 4, 22, 22, 22);
        rule(x, 1, 5, 6);
        rule(x, 2, 23, 23, 23, 23, 23, 23);
        rule(x, 3);
        for (int i = 0; i < long24; i++) {
            x.token(4);
        }
        for (int other : others) {
            x.token(other);
        }
        return x;
    }

    /** The empty rule 0 goes before the others, and comes again and again. */
    static TablePacker endless() {
        TablePacker x = new TablePacker();
        rule(x, 1);
        rule(x, 0, 21, 20, 1);
        rule(x, 0);
        x.token(1);
        return x;
    }

    /** 80 states, 66 of which stand before kind 0 and so shift all tokens. */
    static TablePacker manyEntries() {
        TablePacker x = new TablePacker();
        for (int t = 1; t <= 13; t++) {
            rule(x, 0, t, 20, 20, 20, 20, 20);
        }
        return x;
    }
}
