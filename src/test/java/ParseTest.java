/** Promises 15 to 17: parse, parsed, reduction. */
public final class ParseTest {
    public static void main(String[] args) {
        accepted();
        errorsFoundLaterByThePackedOne();
        nothingIsChangedByWrongInputs();
        theLatestOneStays();
        just2000Steps();
        oneStepMore();
        anErrorAfter2000Steps();
        withoutEnd();
        parsedByClashes();
        Due.end();
    }

    private static void ended(String run, TablePacker x, int reductions, int at, int pile) {
        Due.due(run + ": parsed(0)", x.parsed(0), reductions);
        Due.due(run + ": parsed(1)", x.parsed(1), at);
        Due.due(run + ": parsed(2)", x.parsed(2), pile);
    }

    private static void accepted() {
        TablePacker x = Due.sums();
        Due.tokens(x, 5, 1, 3, 5, 4, 2, 5);
        int[] rules = {5, 3, 1, 5, 3, 1, 4, 3, 5, 2, 0};
        for (int which = 0; which < 2; which++) {
            Due.due("parse(" + which + ")", x.parse(which), 0);
            ended("accepted by " + which, x, rules.length, 7, 2);
            for (int k = 0; k < rules.length; k++) {
                Due.due("reduction(" + k + ")", x.reduction(k), rules[k]);
            }
            Due.due("reduction(11)", x.reduction(11), -1);
            Due.due("reduction(-1)", x.reduction(-1), -1);
            Due.due("reduction of the least int", x.reduction(Integer.MIN_VALUE), -1);
            Due.due("reduction of the largest int", x.reduction(Integer.MAX_VALUE), -1);
        }
        int[] wrong = {-1, 3, Integer.MIN_VALUE, Integer.MAX_VALUE};
        for (int what : wrong) {
            Due.due("parsed(" + what + ")", x.parsed(what), -1);
        }
    }

    // Behind 5 the token 3 is an error; the packed one reduces to a sum before it finds that out.
    private static void errorsFoundLaterByThePackedOne() {
        TablePacker x = Due.sums();
        Due.tokens(x, 5, 3);
        Due.due("parse(0)", x.parse(0), 1);
        ended("plain", x, 0, 1, 2);
        Due.due("reduction(0)", x.reduction(0), -1);
        Due.due("parse(1)", x.parse(1), 1);
        ended("packed", x, 3, 1, 2);
        Due.due("reduction(0)", x.reduction(0), 5);
        Due.due("reduction(1)", x.reduction(1), 3);
        Due.due("reduction(2)", x.reduction(2), 1);
        Due.due("reduction(3)", x.reduction(3), -1);
        Due.tokens(x);
        Due.due("no tokens: parse(0)", x.parse(0), 1);
        ended("no tokens", x, 0, 0, 1);
    }

    private static void nothingIsChangedByWrongInputs() {
        TablePacker x = Due.sums();
        Due.tokens(x, 5);
        x.parse(0);
        Due.tokens(x, 3, 3);
        int[] wrong = {-1, 2, Integer.MIN_VALUE, Integer.MAX_VALUE};
        for (int which : wrong) {
            Due.due("parse(" + which + ")", x.parse(which), -1);
            ended("after a wrong parse", x, 3, 1, 2);
        }
        x.clear();
        Due.due("no rules: parse(0)", x.parse(0), -1);
        Due.rule(x, 1, 3);
        Due.due("no rule of kind 0: parse(0)", x.parse(0), -1);
        Due.due("no rule of kind 0: parse(1)", x.parse(1), -1);
        x.begin(0);
        Due.due("just an open one: parse(0)", x.parse(0), -1);
        ended("after all these", x, 3, 1, 2);
        Due.due("reduction(0)", x.reduction(0), 5);
        x.close();
        Due.due("closed: parse(0)", x.parse(0), 1);
        ended("then", x, 0, 0, 1);
    }

    private static void theLatestOneStays() {
        TablePacker x = Due.sums();
        Due.tokens(x, 5, 2, 5);
        x.parse(1);
        x.drop();
        x.clear();
        Due.rule(x, 0, 1);
        Due.due("count(2)", x.count(2), 3);
        ended("after drop and clear", x, 5, 3, 2);
        int[] rules = {5, 3, 5, 2, 1};
        for (int k = 0; k < rules.length; k++) {
            Due.due("reduction(" + k + ")", x.reduction(k), rules[k]);
        }
    }

    private static void just2000Steps() {
        TablePacker x = Due.parts(83, 1, 2);
        for (int which = 0; which < 2; which++) {
            Due.due("2000 steps: parse(" + which + ")", x.parse(which), 0);
            ended("2000 steps", x, 1915, 85, 2);
        }
    }

    private static void oneStepMore() {
        TablePacker x = Due.parts(83, 2, 2);
        for (int which = 0; which < 2; which++) {
            Due.due("one reduction more: parse(" + which + ")", x.parse(which), 2);
            ended("one reduction more", x, 1915, 85, 3);
        }
        x = Due.parts(83, 1, 2, 1);
        for (int which = 0; which < 2; which++) {
            Due.due("one shift more: parse(" + which + ")", x.parse(which), 2);
            ended("one shift more", x, 1915, 85, 2);
        }
    }

    private static void anErrorAfter2000Steps() {
        TablePacker x = Due.parts(83, 1, 1, 5);
        for (int which = 0; which < 2; which++) {
            Due.due("an error after 2000 steps: parse(" + which + ")", x.parse(which), 1);
            ended("an error after 2000 steps", x, 1914, 86, 3);
        }
    }

    private static void withoutEnd() {
        TablePacker x = Due.endless();
        for (int which = 0; which < 2; which++) {
            Due.due("without end: parse(" + which + ")", x.parse(which), 2);
            ended("without end", x, 2000, 0, 2001);
            Due.due("reduction(0)", x.reduction(0), 0);
            Due.due("reduction(1999)", x.reduction(1999), 0);
            Due.due("reduction(2000)", x.reduction(2000), -1);
        }
        x.drop();
        Due.due("parse(0) of nothing", x.parse(0), 0);
        ended("of nothing", x, 1, 0, 2);
        Due.due("reduction(0)", x.reduction(0), 2);
        Due.due("reduction(1) is no longer there", x.reduction(1), -1);
    }

    private static void parsedByClashes() {
        TablePacker x = new TablePacker();
        Due.rule(x, 0, 20, 1, 20);
        Due.rule(x, 0, 2);
        Due.tokens(x, 2, 1, 2, 1, 2);
        int[] rules = {1, 1, 1, 0, 0};
        for (int which = 0; which < 2; which++) {
            Due.due("shift goes before: parse(" + which + ")", x.parse(which), 0);
            for (int k = 0; k < rules.length; k++) {
                Due.due("reduction(" + k + ")", x.reduction(k), rules[k]);
            }
        }
    }
}
