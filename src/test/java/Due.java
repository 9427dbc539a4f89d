/** What the tests share: answers that are due, and grammars in short form. */
final class Due {
    private static int asked = 0;
    private static int wrong = 0;

    private Due() {
    }

    static void due(String call, int got, int want) {
        asked++;
        if (got != want) {
            wrong++;
            System.out.println(call + " answered " + got + ", due is " + want);
        }
    }

    static void due(String what, boolean holds) {
        asked++;
        if (!holds) {
            wrong++;
            System.out.println("does not hold: " + what);
        }
    }

    /** Ends a test: with exit code 1 if an answer was not the one that is due. */
    static void end() {
        System.out.println(asked + " answers, " + wrong + " not as due");
        if (wrong != 0 || asked == 0) {
            System.exit(1);
        }
    }

    static void rule(TablePacker x, int kind, int... symbols) {
        x.begin(kind);
        for (int symbol : symbols) {
            x.put(symbol);
        }
        x.close();
    }

    static void tokens(TablePacker x, int... tokens) {
        x.drop();
        for (int token : tokens) {
            x.token(token);
        }
    }

    /** Sums with products: kind 0 of kinds 1, joined by 1; kind 1 of kinds 2, by 2; kind 2: 3 .. 4, or 5. */
    static TablePacker sums() {
        TablePacker x = new TablePacker();
        rule(x, 0, 20, 1, 21);
        rule(x, 0, 21);
        rule(x, 1, 21, 2, 22);
        rule(x, 1, 22);
        rule(x, 2, 3, 20, 4);
        rule(x, 2, 5);
        return x;
    }

    /**
     * Rules of kind 0 whose rows have so many beginnings that there are just 100 states: the start,
     * the end, and 98 beginnings: 13 rows of 6 that begin otherwise, 4 more rows with 5 new ones each.
     */
    static TablePacker hundredStates() {
        TablePacker x = new TablePacker();
        for (int t = 1; t <= 13; t++) {
            rule(x, 0, t, 1, 1, 1, 1, 1);
        }
        for (int t = 2; t <= 5; t++) {
            rule(x, 0, 1, t, 1, 1, 1, 1);
        }
        return x;
    }

    /** One state more than there may be. */
    static TablePacker tooLarge() {
        TablePacker x = hundredStates();
        rule(x, 0, 2, 2);
        return x;
    }
}
