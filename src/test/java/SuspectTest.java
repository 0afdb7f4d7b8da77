/** Promises 12 to 18: scores, ranks, suspect sets and their odds. */
public final class SuspectTest {
    public static void main(String[] args) {
        Check check = new Check("SuspectTest");
        scores(check);
        scoresWithoutPassing(check);
        scoresWithoutFailing(check);
        ranks(check);
        refusals(check);
        priors(check);
        setsOfOne(check);
        setsOfTwo(check);
        setsOfThree(check);
        noSets(check);
        linesBeyondOdds(check);
        greatestOdds(check);
        openTestsCountNothing(check);
        check.end();
    }

    /** Below 1 line 5 is met and 7 comes out; else lines 3 and 4 are met and 5 comes out. */
    private static LineFinder ladder() {
        LineFinder x = new LineFinder();
        x.line(4, 0, 0, 0);   // 0: v0 = input
        x.line(0, 1, 1, 0);   // 1: v1 = 1
        x.line(5, 0, 1, 5);   // 2: below 1: to 5
        x.line(0, 2, 5, 0);   // 3: v2 = 5
        x.line(6, 0, 0, 6);   // 4: to 6
        x.line(0, 2, 7, 0);   // 5: v2 = 7
        x.line(7, 2, 0, 0);   // 6: out
        return x;
    }

    private static void exam(LineFinder x, int a, int wanted) {
        int t = x.test(a, 0, 0, 0);
        x.wants(t, wanted);
    }

    private static void dueScore(Check check, LineFinder x, int line, int kind, int above, int below) {
        check.due("score(" + line + ", " + kind + ", 0)", x.score(line, kind, 0), above);
        check.due("score(" + line + ", " + kind + ", 1)", x.score(line, kind, 1), below);
    }

    private static void scores(Check check) {
        LineFinder x = ladder();
        exam(x, 0, 9);   // fails by 5
        exam(x, -1, 9);  // fails by 5
        exam(x, 1, 9);   // fails by 3, 4
        exam(x, -2, 7);  // passes by 5
        exam(x, 2, 5);   // passes by 3, 4
        exam(x, 3, 5);   // passes by 3, 4
        exam(x, 4, 5);   // passes by 3, 4
        // f 3, p 4; line 0: a 3, b 4; line 3: a 1, b 3; line 5: a 2, b 1
        dueScore(check, x, 0, 0, 3, 7);
        dueScore(check, x, 0, 1, 3, 7);
        dueScore(check, x, 0, 2, 1, 2);
        dueScore(check, x, 3, 0, 1, 6);
        dueScore(check, x, 3, 1, 1, 12);
        dueScore(check, x, 3, 2, 4, 13);
        dueScore(check, x, 5, 0, 1, 2);
        dueScore(check, x, 5, 1, 4, 9);
        dueScore(check, x, 5, 2, 8, 11);
        x.change(5, 0, 2, 9, 0);
        // tests 0 and 1 pass now, test 3 fails: f 2, p 5; line 5: a 1, b 2
        dueScore(check, x, 5, 0, 1, 4);
        dueScore(check, x, 5, 1, 1, 6);
        dueScore(check, x, 5, 2, 5, 9);
    }

    private static void scoresWithoutPassing(Check check) {
        LineFinder x = ladder();
        exam(x, 0, 9);
        exam(x, 1, 9);
        dueScore(check, x, 0, 2, 1, 1);
        dueScore(check, x, 3, 2, 1, 2);
        dueScore(check, x, 3, 0, 1, 2);
        dueScore(check, x, 3, 1, 1, 2);
        exam(x, 2, 9);
        dueScore(check, x, 5, 2, 1, 3);
        dueScore(check, x, 3, 2, 2, 3);
        dueScore(check, x, 3, 1, 2, 3);
    }

    private static void scoresWithoutFailing(Check check) {
        LineFinder x = ladder();
        for (int kind = 0; kind < 3; kind++) {
            dueScore(check, x, 0, kind, 0, 1);
            dueScore(check, x, 5, kind, 0, 1);
        }
        exam(x, 1, 5);
        for (int kind = 0; kind < 3; kind++) {
            dueScore(check, x, 0, kind, 0, 1);
            dueScore(check, x, 5, kind, 0, 1);
            check.due("rank by number alone", x.rank(4, kind), 4);
        }
    }

    private static void ranks(Check check) {
        LineFinder x = ladder();
        exam(x, 0, 9);
        exam(x, 1, 5);
        // line 5 alone is met by the failing test alone: 1 by 1; 0, 1, 2, 6 are met by both
        int[] byFirst = {1, 2, 3, 5, 6, 0, 4};
        for (int line = 0; line < 7; line++) {
            for (int kind = 0; kind < 3; kind++) {
                check.due("rank(" + line + ", " + kind + ")", x.rank(line, kind), byFirst[line]);
            }
        }
    }

    private static void refusals(Check check) {
        LineFinder x = ladder();
        check.due("score of no line", x.score(7, 0, 0), -1);
        check.due("score of line -1", x.score(-1, 0, 0), -1);
        check.due("nobody ahead of other", x.score(7, 3, 2), -1);
        check.due("kind -1", x.score(0, -1, 0), -2);
        check.due("kind 3", x.score(0, 3, 0), -2);
        check.due("part -1", x.score(0, 0, -1), -2);
        check.due("part 2", x.score(0, 0, 2), -2);
        check.due("rank of no line", x.rank(7, 0), -1);
        check.due("rank, nobody ahead of other", x.rank(-1, 9), -1);
        check.due("rank by kind 3", x.rank(0, 3), -2);
        check.due("rank by kind -1", x.rank(0, -1), -2);
        check.dueRefusals("behind scores", x, 5, 6, 0, 0, 0, 0);
    }

    private static void priors(Check check) {
        LineFinder x = ladder();
        check.due("prior at first", x.prior(0, 9), 2);
        check.due("prior then", x.prior(0, 1), 9);
        check.due("prior of no line", x.prior(7, 5), -1);
        check.due("nobody ahead of below", x.prior(-1, 0), -1);
        check.due("nobody ahead of room", x.prior(24, 10), -1);
        check.due("prior 0", x.prior(0, 0), -4);
        check.due("prior, far below", x.prior(0, Integer.MIN_VALUE), -4);
        check.due("prior 10", x.prior(0, 10), -6);
        check.due("prior is as it was", x.prior(0, 1), 1);
        check.due("another line's prior", x.prior(6, 3), 2);
        check.dueRefusals("behind priors", x, 3, 0, 0, 2, 0, 1);
    }

    private static void setsOfOne(Check check) {
        LineFinder x = ladder();
        exam(x, 0, 9);
        exam(x, 1, 5);
        // met by test 0: 0, 1, 2, 5, 6
        int[] sets = {1, 2, 4, 32, 64};
        check.due("suspects", x.suspects(), 5);
        for (int i = 0; i < 5; i++) {
            check.due("suspect " + i, x.suspect(i), sets[i]);
        }
        check.due("suspect 5", x.suspect(5), -9);
        check.due("suspect -1", x.suspect(-1), -9);
        check.due("odds 5", x.odds(5), 0);
        check.due("odds -1", x.odds(-1), 0);
        check.due("odds 0: 2 times 8 six times", x.odds(0), 524288);
        check.due("odds 3: twice, as the passing test does not meet 5", x.odds(3), 1048576);
        check.due("best", x.best(), 32);
        x.prior(2, 5);
        // set {2}: 5 times 8 six times; others: 2 times 5 times 8 five times
        check.due("odds 2 by prior", x.odds(2), 1310720);
        check.due("odds 0 by prior of another", x.odds(0), 327680);
        check.due("best by prior", x.best(), 4);
        check.dueRefusals("-9 and 0 are no refusals", x, 0, 0, 0, 0, 0, 0);
    }

    private static void setsOfTwo(Check check) {
        LineFinder x = ladder();
        exam(x, 0, 9);
        exam(x, 1, 9);
        // both meet 0, 1, 2, 6; 3, 4 by one, 5 by the other
        int[] sets = {1, 2, 4, 64, 8 | 32, 16 | 32};
        check.due("suspects", x.suspects(), sets.length);
        for (int i = 0; i < sets.length; i++) {
            check.due("suspect " + i, x.suspect(i), sets[i]);
        }
        check.due("odds of a set of one", x.odds(0), 2L * 262144);
        check.due("odds of a set of two", x.odds(4), 4L * 32768);
        check.due("best of the same odds is the first", x.best(), 1);
    }

    /** Three tests take three ways, which share lines 0, 1, 2 and 9 alone. */
    private static void setsOfThree(Check check) {
        LineFinder x = new LineFinder();
        x.line(4, 0, 0, 0);    // 0
        x.line(4, 1, 1, 0);    // 1
        x.line(5, 0, 1, 5);    // 2: input 0 below input 1: to 5
        x.line(0, 2, 1, 0);    // 3
        x.line(6, 0, 0, 9);    // 4
        x.line(4, 1, 2, 0);    // 5
        x.line(5, 0, 1, 8);    // 6: input 0 below input 2: to 8
        x.line(6, 0, 0, 9);    // 7
        x.line(0, 2, 2, 0);    // 8
        x.line(7, 2, 0, 0);    // 9
        x.test(0, 0, 0, 0);    // meets 0 1 2 3 4 9
        x.test(0, 1, 0, 0);    // meets 0 1 2 5 6 7 9
        x.test(0, 1, 1, 0);    // meets 0 1 2 5 6 8 9
        x.wants(0, 77);
        x.wants(1, 77);
        x.wants(2, 77);
        int[] sets = {
            1, 2, 4, 512,
            bits(3, 5), bits(4, 5), bits(3, 6), bits(4, 6),
            bits(3, 7, 8), bits(4, 7, 8),
        };
        check.due("suspects", x.suspects(), sets.length);
        for (int i = 0; i < sets.length; i++) {
            check.due("suspect " + i, x.suspect(i), sets[i]);
        }
        check.due("suspect behind the last", x.suspect(sets.length), -9);
        check.due("odds of a set of three", x.odds(8), 8L * 2097152);
        x.prior(3, 9);
        x.prior(7, 9);
        x.prior(8, 9);
        // {3,7,8}: 9*9*9 times 8 seven times
        check.due("odds of that set by priors", x.odds(8), 729L * 2097152);
        check.due("best is a set of three", x.best(), bits(3, 7, 8));
    }

    private static int bits(int... lines) {
        int set = 0;
        for (int line : lines) {
            set |= 1 << line;
        }
        return set;
    }

    private static void noSets(Check check) {
        LineFinder x = new LineFinder();
        check.due("suspects of nothing", x.suspects(), 0);
        check.due("suspect of nothing", x.suspect(0), -9);
        check.due("odds of nothing", x.odds(0), 0);
        check.due("best of nothing", x.best(), -9);
        exam(x, 0, 1);
        check.due("a failing test that meets no line", x.suspects(), 0);
        LineFinder y = ladder();
        exam(y, 1, 5);
        check.due("passing tests alone", y.suspects(), 0);
        check.due("best of passing tests", y.best(), -9);
        check.dueRefusals("behind no sets", y, 0, 0, 0, 0, 0, 0);
    }

    private static void linesBeyondOdds(Check check) {
        LineFinder x = new LineFinder();
        for (int i = 0; i < 24; i++) {
            x.line(0, 0, i, 0);
        }
        exam(x, 0, 1);
        check.due("rank of line 23", x.rank(23, 0), 23);
        check.due("rank of line 0", x.rank(0, 2), 0);
        long eight11 = 8589934592L;
        check.due("suspects of 24 lines", x.suspects(), 24);
        check.due("suspect 23", x.suspect(23), 1 << 23);
        check.due("odds of line 11", x.odds(11), 2 * eight11);
        check.due("odds of line 12", x.odds(12), 8 * eight11);
        check.due("best", x.best(), 1 << 12);
        check.due("prior of line 12", x.prior(12, 9), 2);
        check.due("prior of line 12 is held", x.prior(12, 8), 9);
        check.due("but counts nothing", x.odds(12), 8 * eight11);
        check.due("nor for others", x.odds(23), 8 * eight11);
        x.prior(11, 9);
        check.due("prior of line 11 counts", x.odds(11), 9 * eight11);
        check.due("best by it", x.best(), 1 << 11);
        // a passing test meets line 12 too, so its odds are not doubled: those of line 23 neither
        x.test(0, 0, 0, 0);
        check.due("passing test that meets all", x.odds(12), eight11);
    }

    private static void greatestOdds(Check check) {
        LineFinder x = new LineFinder();
        x.line(4, 0, 0, 0);     // 0
        x.line(5, 0, 1, 12);    // 1: input below 0: to 12
        for (int i = 2; i < 11; i++) {
            x.line(0, 3, i, 0);
        }
        x.line(6, 0, 0, 13);    // 11
        x.line(7, 0, 0, 0);     // 12
        exam(x, -1, 5);         // fails: meets 0, 1, 12
        for (int i = 0; i < 11; i++) {
            x.test(i, 0, 0, 0); // passes: meets 0 to 11
        }
        for (int i = 0; i < 12; i++) {
            x.prior(i, 1);
        }
        check.due("suspects", x.suspects(), 3);
        // 9 twelve times, and 2 eleven times
        check.due("odds of line 12", x.odds(2), 282429536481L * 2048);
        check.due("odds of line 0", x.odds(0), 31381059609L);
        check.due("best", x.best(), 1 << 12);
    }

    private static void openTestsCountNothing(Check check) {
        LineFinder x = ladder();
        exam(x, 0, 9);
        exam(x, 1, 9);
        exam(x, 1, 5);
        check.due("suspects", x.suspects(), 6);
        check.due("odds of {3, 5}: met by the passing test", x.odds(4), 4L * 32768);
        x.open(1, true);
        check.due("suspects without the open test", x.suspects(), 5);
        dueScore(check, x, 5, 0, 1, 1);
        check.due("odds of {5}", x.odds(3), 2L * 262144 * 2);
        x.open(2, true);
        check.due("odds of {5} without the passing test", x.odds(3), 2L * 262144);
        x.open(1, false);
        check.due("suspects as before", x.suspects(), 6);
    }
}
