/** Promises 29 and 30: the test that parts best, and the counts. */
public final class CountTest {
    public static void main(String[] args) {
        Check check = new Check("CountTest");
        partingOfNone(check);
        parting(check);
        partingOfTheSame(check);
        partingByPriors(check);
        counts(check);
        answersAreFresh(check);
        countOfOthers(check);
        refusalsOfEachNumber(check);
        check.end();
    }

    /** Two IFs: inputs 0 and 1 below 0 pass over line 3 and over line 5. */
    private static LineFinder gates() {
        LineFinder x = new LineFinder();
        x.line(4, 0, 0, 0);   // 0
        x.line(4, 1, 1, 0);   // 1
        x.line(5, 0, 7, 4);   // 2
        x.line(0, 2, 1, 0);   // 3
        x.line(5, 1, 7, 6);   // 4
        x.line(0, 3, 1, 0);   // 5
        x.line(7, 2, 0, 0);   // 6
        x.line(7, 3, 0, 0);   // 7
        return x;
    }

    private static int openTest(LineFinder x, int a, int b) {
        int t = x.test(a, b, 0, 0);
        x.open(t, true);
        return t;
    }

    private static void partingOfNone(Check check) {
        LineFinder x = gates();
        check.due("parting of nothing", x.parting(), -9);
        openTest(x, 0, 0);
        check.due("open, but no suspect set", x.parting(), -9);
        x.test(0, 0, 0, 0);
        x.wants(1, 9);
        check.due("open and suspect sets", x.parting(), 0);
        x.open(0, false);
        check.due("suspect sets, but none open", x.parting(), -9);
        LineFinder empty = new LineFinder();
        openTest(empty, 0, 0);
        empty.test(0, 0, 0, 0);
        empty.wants(1, 9);
        check.due("a failing test that meets nothing", empty.parting(), -9);
        check.dueRefusals("-9 is no refusal", x, 0, 0, 0, 0, 0, 0);
    }

    /** One that meets all sets is as bad as one that meets none; a smaller part is better. */
    private static void parting(Check check) {
        LineFinder x = new LineFinder();
        x.line(6, 0, 0, 1);   // 0
        x.line(4, 0, 0, 0);   // 1
        x.line(5, 0, 7, 6);   // 2: below 0: to 6
        x.line(7, 7, 0, 0);   // 3
        x.line(7, 7, 0, 0);   // 4
        x.line(7, 7, 0, 0);   // 5
        x.test(0, 0, 0, 0);   // fails: meets all six, each a set of its own
        int all = openTest(x, 5, 0);
        check.due("the one that is open", x.parting(), all);
        int half = openTest(x, -5, 0);
        check.due("0 to 2 are a half of the odds", x.parting(), half);
        x.open(half, false);
        check.due("it is judged now: it passes", x.count(3), 1);
        check.due("so the other one is left", x.parting(), all);
    }

    private static void partingOfTheSame(Check check) {
        LineFinder x = gates();
        x.test(0, 0, 0, 0);
        x.wants(0, 9);
        int wide = openTest(x, 0, 0);
        int first = openTest(x, 0, -1);
        int second = openTest(x, -1, 0);
        check.due("of the same the least", x.parting(), first);
        x.prior(3, 9);
        // {3} weighs most now: who passes over it, and not over 5, parts better
        check.due("by odds", x.parting(), second);
        check.due("the failing test's sets", x.suspects(), 8);
        x.open(first, false);
        x.open(second, false);
        check.due("the wide one is left", x.parting(), wide);
    }

    private static void partingByPriors(Check check) {
        LineFinder x = gates();
        x.test(0, 0, 0, 0);
        x.wants(0, 9);
        int overFive = openTest(x, 0, -1);
        int overThree = openTest(x, -1, 0);
        int overBoth = openTest(x, -1, -1);
        // alike sets of 8 lines: over one of them 7 to 1, over both 6 to 2
        check.due("two of eight are nearer to a half", x.parting(), overBoth);
        x.prior(5, 9);
        // odds: {5} 9 * 8^7, each of the others 2 * 1 * 8^6: 72 to 14; over 5 alone, and over both: 74 to 12
        check.due("72 to 14", x.parting(), overFive);
        x.prior(5, 6);
        // {5} 6 * 8, each of the others 2 * 4: 48 to 56 over five, 56 to 48 over both: the least of the same
        check.due("48 to 56, or 56 to 48", x.parting(), overFive);
        x.prior(7, 3);
        // by 560: {5} 840, {7} 240, each of the others 140: 1080 to 840 over five, 940 to 980 over both
        check.due("940 to 980 is nearer", x.parting(), overBoth);
        x.open(overFive, false);
        check.due("it passes or fails now", x.count(2) + x.count(3), 2);
        check.due("open ones", x.count(4), 2);
        check.due("over three is still open", x.open(overThree, true), 0);
    }

    private static void counts(Check check) {
        LineFinder x = new LineFinder();
        x.line(4, 0, 0, 0);
        x.line(5, 0, 7, 1);   // below 0: for ever
        x.line(7, 0, 0, 0);
        x.test(1, 0, 0, 0);
        x.wants(0, 1);        // passes
        x.test(1, 0, 0, 0);
        x.wants(1, 2);        // fails
        x.test(-1, 0, 0, 0);  // cut: fails
        x.test(-1, 0, 0, 0);  // cut and open
        x.open(3, true);
        x.test(2, 0, 0, 0);   // fails, and open
        x.open(4, true);
        int[] want = {3, 5, 2, 1, 2, 0, 2};
        for (int what = 0; what <= 6; what++) {
            check.due("count(" + what + ")", x.count(what), want[what]);
        }
        x.wants(1, 3);
        x.wants(4, 2);
        check.due("an open test that passes counts nothing", x.count(3), 1);
        x.open(4, false);
        check.due("until it is judged", x.count(3), 2);
        x.change(1, 7, 0, 0, 0);
        check.due("a change", x.count(5), 1);
        check.due("no cut run is left", x.count(6), 0);
        check.due("passing ones", x.count(3), 0);
        check.due("failing ones", x.count(2), 4);
    }

    /** Whatever tells something new, the next answer knows of it. */
    private static void answersAreFresh(Check check) {
        LineFinder x = new LineFinder();
        x.test(0, 0, 0, 0);
        check.due("passes", x.count(3), 1);
        x.line(7, 0, 0, 0);
        check.due("a line more: fails", x.count(2), 1);
        check.due("a line more: a suspect", x.suspects(), 1);
        x.wants(0, 0);
        check.due("a number more: passes", x.count(3), 1);
        check.due("a number more: no suspect", x.suspects(), 0);
        x.test(0, 0, 0, 0);
        check.due("a test more: fails", x.count(2), 1);
        check.due("a test more: score", x.score(0, 0, 1), 2);
        x.open(1, true);
        check.due("open: no suspect", x.suspects(), 0);
        x.open(1, false);
        check.due("closed: a suspect", x.suspect(0), 1);
        x.change(0, 0, 0, 0, 0);
        check.due("a change: one fails", x.count(2), 1);
        check.due("a change: one passes", x.count(3), 1);
        check.due("a change: odds", x.odds(0), 2);
        x.prior(0, 7);
        check.due("a prior: odds", x.odds(0), 7);
        x.passesIn(0, 0);
        x.turnFor(0);
        x.mends(0, 0);
        check.due("looking elsewhere changes nothing", x.odds(0), 7);
    }

    private static void countOfOthers(Check check) {
        LineFinder x = new LineFinder();
        int[] others = {-1, 7, 8, 9, 10, 17, 18, Integer.MIN_VALUE, Integer.MAX_VALUE, -11, -16};
        for (int what : others) {
            check.due("count(" + what + ")", x.count(what), -9);
        }
        check.dueRefusals("-9 is no refusal", x, 0, 0, 0, 0, 0, 0);
    }

    private static void refusalsOfEachNumber(Check check) {
        LineFinder x = new LineFinder();
        x.line(0, 0, 0, 0);
        x.test(0, 0, 0, 0);
        x.passes(5);
        x.score(0, 9, 0);
        x.score(0, 0, 9);
        x.turnFor(0);
        x.broke(0);
        x.looks(0);
        for (int i = 0; i < 4; i++) {
            x.prior(0, 0);
        }
        for (int i = 0; i < 5; i++) {
            x.prior(0, 10);
        }
        check.dueRefusals("each in its place", x, 1, 2, 3, 4, 0, 5);
        check.due("nothing changed", x.prior(0, 2), 2);
    }
}
