/** Part II of the document: scores, ranks, suspect sets and their odds at their edges. */
public final class EdgesOfSuspectsTest {
    public static void main(String[] args) {
        Sentences s = new Sentences("EdgesOfSuspectsTest");
        all(s);
        s.end();
    }

    static void all(Sentences s) {
        s.holds("A LINE is MET by a TEST if its RUN does it", EdgesOfSuspectsTest::met);
        s.holds("a FAILING and b PASSING TESTS that MEET it, f, p all FAILING, PASSING ones",
            EdgesOfSuspectsTest::testsThatCount);
        s.holds("0: a by (f and b)", EdgesOfSuspectsTest::scoreOfKind0);
        s.holds("1: a times a by f times (a and b)", EdgesOfSuspectsTest::scoreOfKind1);
        s.holds("2: a times p by (a times p and b times f)", EdgesOfSuspectsTest::scoreOfKind2);
        s.holds("(with p 0: a by f)", EdgesOfSuspectsTest::withoutPassing);
        s.holds("(0 by 1 where what is below is 0.)", EdgesOfSuspectsTest::zeroByOne);
        s.holds("how many LINES have a greater SCORE", EdgesOfSuspectsTest::rankByScore);
        s.holds("or the same and a lesser number", EdgesOfSuspectsTest::rankByNumber);
        s.holds("sets of LINES (1 to 3)", EdgesOfSuspectsTest::setsOfOneToThree);
        s.holds("of which each FAILING TEST MEETS one at least", EdgesOfSuspectsTest::eachFailingTest);
        s.holds("and that have no such set within them that is smaller", EdgesOfSuspectsTest::noSmallerWithin);
        s.holds("there are none without FAILING TESTS", EdgesOfSuspectsTest::noneWithoutFailing);
        s.holds("of LINES 0 to 11 alone (others count nothing, in the set or not)", EdgesOfSuspectsTest::lines0To11);
        s.holds("PRIOR (1 .. 9; 2 at first) of each that is in the set", EdgesOfSuspectsTest::priorsInTheSet);
        s.holds("times 10 less PRIOR of each that is not", EdgesOfSuspectsTest::priorsOutside);
        s.holds("times 1 for each PASSING TEST that MEETS a LINE of the set, 2 for each other one",
            EdgesOfSuspectsTest::passingTests);
        s.holds("times 1 for each PASSING TEST that MEETS a LINE of the set, 2 for each other one", "the most",
            EdgesOfSuspectsTest::greatestOdds);
        s.holds("They are numbered by how many LINES they have, then by bits", EdgesOfSuspectsTest::numbered);
        s.holds("BEST: that of the greatest ODDS", EdgesOfSuspectsTest::bestOfAll);
        s.holds("of several the first.", EdgesOfSuspectsTest::bestOfSeveral);
    }

    private static void score(Check check, LineFinder x, int line, int kind, int above, int below) {
        check.due("above of line " + line + ", kind " + kind, x.score(line, kind, 0), above);
        check.due("below of line " + line + ", kind " + kind, x.score(line, kind, 1), below);
    }

    private static void sets(Check check, LineFinder x, int... sets) {
        check.due("sets", x.suspects(), sets.length);
        for (int i = 0; i < sets.length; i++) {
            check.due("set " + i, x.suspect(i), sets[i]);
        }
        check.due("no set behind them", x.suspect(sets.length), -9);
    }

    private static void met(Check check) {
        // steps 299 and 300 are lines 4 and 5; line 6 would be the 301st
        LineFinder x = Rows.countdown(Rows.number(2, 1), Rows.number(2, 2), Rows.number(2, 3));
        Rows.exam(x, 148);
        check.due("line 2, often", x.met(0, 2), 148);
        check.due("line 5, by the last step", x.met(0, 5), 1);
        check.due("line 6, not", x.met(0, 6), 0);
        score(check, x, 5, 0, 1, 1);
        score(check, x, 6, 0, 0, 1);
        sets(check, x, 1, 2, 4, 8, 16, 32);
        LineFinder over = Rows.twoWays();
        Rows.exam(over, -1);
        sets(check, over, 1, 2, 16, 32);
        score(check, over, 2, 1, 0, 1);
    }

    /** Failing and passing tests of input 0 below 0, then such of the others. */
    private static LineFinder ways(int failBelow, int passBelow, int failAbove, int passAbove) {
        LineFinder x = Rows.twoWays();
        for (int i = 0; i < failBelow; i++) Rows.exam(x, -1);
        for (int i = 0; i < passBelow; i++) Rows.exam(x, -1, 6);
        for (int i = 0; i < failAbove; i++) Rows.exam(x, 0);
        for (int i = 0; i < passAbove; i++) Rows.exam(x, 0, 5);
        return x;
    }

    private static void testsThatCount(Check check) {
        // line 2 is done 5 times and 3 times by those that fail, twice by the one that passes: a 2, b 1
        LineFinder often = Rows.countdown(Rows.out(0));
        Rows.exam(often, 5, 1);
        Rows.exam(often, 3, 1);
        Rows.exam(often, 2, 0);
        score(check, often, 2, 0, 2, 3);
        score(check, often, 2, 1, 2, 3);
        score(check, often, 2, 2, 1, 2);
        // two that are OPEN, one that would fail and one that would pass, are of none of a, b, f, p
        often.open(Rows.exam(often, 4, 1), true);
        often.open(Rows.exam(often, 6, 0), true);
        score(check, often, 2, 0, 2, 3);
        score(check, often, 2, 1, 2, 3);
        score(check, often, 2, 2, 1, 2);
        // line 4: a 1, b 2, f 4, p 3: those that do not meet it are of f and p alone
        LineFinder x = ways(1, 2, 3, 1);
        score(check, x, 4, 0, 1, 6);
        score(check, x, 4, 1, 1, 12);
        score(check, x, 4, 2, 3, 11);
    }

    private static void scoreOfKind0(Check check) {
        LineFinder x = ways(2, 1, 1, 3);
        // f 3, p 4; line 4: a 2, b 1; line 2: a 1, b 3; line 0: a 3, b 4
        score(check, x, 4, 0, 1, 2);
        score(check, x, 2, 0, 1, 6);
        score(check, x, 0, 0, 3, 7);
        score(check, ways(12, 0, 0, 0), 0, 0, 1, 1);
        score(check, ways(0, 6, 6, 0), 4, 0, 0, 1);
        score(check, ways(1, 11, 0, 0), 4, 0, 1, 12);
    }

    private static void scoreOfKind1(Check check) {
        LineFinder x = ways(2, 1, 1, 3);
        score(check, x, 4, 1, 4, 9);
        score(check, x, 2, 1, 1, 12);
        score(check, x, 0, 1, 3, 7);
        score(check, ways(12, 0, 0, 0), 0, 1, 1, 1);
        score(check, ways(6, 6, 0, 0), 0, 1, 1, 2);
        score(check, ways(11, 1, 0, 0), 0, 1, 11, 12);
        score(check, ways(5, 0, 7, 0), 4, 1, 5, 12);
    }

    private static void scoreOfKind2(Check check) {
        LineFinder x = ways(2, 1, 1, 3);
        // line 4: 8 by 8 and 3; line 2: 4 by 4 and 9; line 0: 12 by 12 and 12
        score(check, x, 4, 2, 8, 11);
        score(check, x, 2, 2, 4, 13);
        score(check, x, 0, 2, 1, 2);
        score(check, ways(1, 0, 0, 11), 4, 2, 1, 1);
        score(check, ways(5, 1, 1, 5), 4, 2, 5, 6);
        score(check, ways(0, 5, 7, 0), 4, 2, 0, 1);
    }

    private static void withoutPassing(Check check) {
        LineFinder x = ways(1, 0, 2, 0);
        score(check, x, 4, 2, 1, 3);
        score(check, x, 2, 2, 2, 3);
        score(check, x, 0, 2, 1, 1);
        int t = Rows.exam(x, -1, 6);
        // p 1: line 4: 1 by 1 and 3; line 2: 2 by 2 and 0
        score(check, x, 4, 2, 1, 4);
        score(check, x, 2, 2, 1, 1);
        x.open(t, true);
        score(check, x, 4, 2, 1, 3);
        LineFinder all = ways(5, 0, 7, 0);
        score(check, all, 4, 2, 5, 12);
    }

    private static void zeroByOne(Check check) {
        int[][] tests = {{0, 0, 0, 0}, {0, 0, 0, 2}, {0, 1, 0, 1}};
        for (int[] t : tests) {
            LineFinder x = ways(t[0], t[1], t[2], t[3]);
            for (int kind = 0; kind < 3; kind++) {
                for (int line = 0; line < 6; line++) {
                    score(check, x, line, kind, 0, 1);
                }
            }
        }
        // line 4 is met by nobody: kinds 1 and 2 have 0 below
        LineFinder unmet = ways(0, 0, 2, 3);
        for (int kind = 0; kind < 3; kind++) {
            score(check, unmet, 4, kind, 0, 1);
        }
        LineFinder alone = ways(0, 0, 2, 0);
        for (int kind = 0; kind < 3; kind++) {
            score(check, alone, 4, kind, 0, 1);
        }
    }

    private static void rankByScore(Check check) {
        LineFinder x = ways(2, 1, 1, 3);
        // kind 0: line 4 1/2, lines 0 1 5 3/7, lines 2 3 1/6; kind 1: 4/9, 3/7, 1/12; kind 2: 8/11, 1/2, 4/13
        int[] ranks = {1, 2, 4, 5, 0, 3};
        for (int kind = 0; kind < 3; kind++) {
            for (int line = 0; line < 6; line++) {
                check.due("rank(" + line + ", " + kind + ")", x.rank(line, kind), ranks[line]);
            }
        }
        LineFinder late = Rows.twoWays();
        Rows.exam(late, -1);
        Rows.exam(late, 0, 5);
        check.due("greater, though of a greater number", late.rank(4, 0), 0);
        check.due("line 0 behind it", late.rank(0, 0), 1);
    }

    private static void rankByNumber(Check check) {
        LineFinder x = new LineFinder();
        for (int i = 0; i < 24; i++) {
            Rows.tell(x, Rows.number(0, i));
        }
        for (int kind = 0; kind < 3; kind++) {
            check.due("the first of 24 of the same", x.rank(0, kind), 0);
            check.due("the second", x.rank(1, kind), 1);
            check.due("the last", x.rank(23, kind), 23);
        }
        LineFinder y = ways(1, 0, 1, 2);
        // kind 0: lines 0 1 5 2 by 4, line 4 1 by 2: the same; lines 2 3 1 by 4
        int[] ranks = {0, 1, 4, 5, 2, 3};
        for (int line = 0; line < 6; line++) {
            check.due("rank(" + line + ", 0)", y.rank(line, 0), ranks[line]);
        }
    }

    private static void setsOfOneToThree(Check check) {
        LineFinder x = Rows.fourWays();
        for (int a = 0; a >= -1; a--) {
            for (int b = 0; b >= -1; b--) {
                Rows.exam2(x, a, b, 1);
            }
        }
        // {4, 5, 7, 8} would explain too, but has four
        sets(check, x, 1, 2, 4, Rows.bits(3, 6), Rows.bits(4, 5, 6), Rows.bits(3, 7, 8));
        LineFinder one = Rows.program(Rows.out(0));
        Rows.exam(one, 0);
        sets(check, one, 1);
    }

    private static void eachFailingTest(Check check) {
        LineFinder x = Rows.fourWays();
        Rows.exam2(x, 0, 0, 1);
        sets(check, x, 1, 2, 4, 8, 16);
        Rows.exam2(x, 0, -1, 1);
        sets(check, x, 1, 2, 4, 8, Rows.bits(4, 5));
        Rows.exam2(x, -1, 0, 1);
        sets(check, x, 1, 2, 4, Rows.bits(3, 6), Rows.bits(3, 7), Rows.bits(4, 5, 6), Rows.bits(4, 5, 7));
        Rows.exam2(x, -1, -1);
        check.due("a passing test need not meet one", x.suspects(), 7);
    }

    private static void noSmallerWithin(Check check) {
        LineFinder x = Rows.program(Rows.number(0, 1), Rows.number(0, 2), Rows.number(0, 3), Rows.number(0, 4));
        Rows.exam(x, 0, 1);
        sets(check, x, 1, 2, 4, 8);
        LineFinder two = Rows.twoWays();
        Rows.exam(two, -1);
        Rows.exam(two, 0);
        sets(check, two, 1, 2, 32, Rows.bits(2, 4), Rows.bits(3, 4));
        LineFinder four = Rows.fourWays();
        Rows.exam2(four, 0, 0, 1);
        Rows.exam2(four, 0, -1, 1);
        Rows.exam2(four, -1, -1, 1);
        // {3, 6} and {3, 8} are within no set of three; {4, 5} alone leaves the third test
        sets(check, four, 1, 2, 4, Rows.bits(3, 6), Rows.bits(3, 8), Rows.bits(4, 5, 6), Rows.bits(4, 5, 8));
    }

    private static void noneWithoutFailing(Check check) {
        LineFinder none = Rows.twoWays();
        sets(check, none);
        LineFinder passing = ways(0, 2, 0, 1);
        sets(check, passing);
        LineFinder open = ways(1, 0, 1, 0);
        open.open(0, true);
        open.open(1, true);
        sets(check, open);
        open.open(1, false);
        sets(check, open, 1, 2, 4, 8, 32);
        LineFinder empty = new LineFinder();
        Rows.exam(empty, 0, 1);
        sets(check, empty);
    }

    /** A straight program, whose one test fails and meets all lines. */
    private static LineFinder straight(int lines) {
        LineFinder x = new LineFinder();
        for (int i = 0; i < lines; i++) {
            Rows.tell(x, Rows.number(0, i));
        }
        Rows.exam(x, 0, 1);
        return x;
    }

    private static long power(long base, int times) {
        long result = 1;
        for (int i = 0; i < times; i++) {
            result *= base;
        }
        return result;
    }

    private static void lines0To11(Check check) {
        for (int lines : new int[] {1, 11, 12, 13, 24}) {
            LineFinder x = straight(lines);
            int counted = Math.min(lines, 12);
            check.due("odds of {0} of " + lines, x.odds(0), 2 * power(8, counted - 1));
            if (lines >= 12) {
                check.due("odds of {11} of " + lines, x.odds(11), 2 * power(8, 11));
            }
            if (lines > 12) {
                check.due("odds of {12} of " + lines, x.odds(12), power(8, 12));
                check.due("odds of the last of " + lines, x.odds(lines - 1), power(8, 12));
            }
        }
        LineFinder x = straight(13);
        x.prior(12, 9);
        check.due("prior of 12, in the set", x.odds(12), power(8, 12));
        check.due("prior of 12, not in the set", x.odds(0), 2 * power(8, 11));
        x.prior(11, 9);
        check.due("prior of 11, in the set", x.odds(11), 9 * power(8, 11));
        check.due("prior of 11, not in the set", x.odds(12), power(8, 11));
    }

    private static void priorsInTheSet(Check check) {
        LineFinder x = straight(2);
        check.due("2 at first", x.odds(0), 2 * 8);
        check.due("2 at first, as it was", x.prior(0, 1), 2);
        check.due("1", x.odds(0), 8);
        check.due("9 is taken", x.prior(0, 9), 1);
        check.due("9", x.odds(0), 9 * 8);
        check.due("10 is not", x.prior(0, 10), -6);
        check.due("0 is not", x.prior(0, 0), -4);
        check.due("9 still", x.odds(0), 9 * 8);
        LineFinder pair = Rows.twoWays();
        Rows.exam(pair, -1);
        Rows.exam(pair, 0);
        pair.prior(2, 3);
        pair.prior(4, 5);
        check.due("each of {2, 4}", pair.odds(3), 3 * 5 * power(8, 4));
    }

    private static void priorsOutside(Check check) {
        LineFinder x = straight(3);
        check.due("10 less 2, twice", x.odds(0), 2 * 8 * 8);
        x.prior(1, 1);
        check.due("10 less 1", x.odds(0), 2 * 9 * 8);
        x.prior(1, 9);
        check.due("10 less 9", x.odds(0), 2 * 8);
        x.prior(2, 5);
        check.due("10 less 5", x.odds(0), 2 * 5);
    }

    private static void passingTests(Check check) {
        LineFinder x = ways(1, 0, 0, 0);
        long alone = 2 * power(8, 5);
        check.due("no passing test", x.odds(2), alone);
        for (int k = 1; k <= 3; k++) {
            int t = Rows.exam(x, 0, 5);
            check.due("{0} is met", x.odds(0), alone);
            check.due("{4} is not met by " + k, x.odds(2), alone << k);
            check.due("test " + t + " passes", x.passes(t), 1);
        }
        x.open(3, true);
        check.due("an open one counts nothing", x.odds(2), alone << 2);
        LineFinder four = Rows.fourWays();
        Rows.exam2(four, 0, 0, 1);
        Rows.exam2(four, -1, 0, 1);
        sets(check, four, 1, 2, 4, Rows.bits(3, 6), Rows.bits(4, 6), Rows.bits(3, 7), Rows.bits(4, 7));
        long pair = 4 * power(8, 7);
        Rows.exam2(four, 0, -1);
        // it does 3 and 5: one line of a set is enough
        long[] once = {pair, 2 * pair, pair, 2 * pair};
        for (int i = 0; i < 4; i++) {
            check.due("odds of set " + (3 + i), four.odds(3 + i), once[i]);
        }
        Rows.exam2(four, -1, -1);
        // it does 6 and 8
        long[] twice = {pair, 2 * pair, 2 * pair, 4 * pair};
        for (int i = 0; i < 4; i++) {
            check.due("odds of set " + (3 + i) + " then", four.odds(3 + i), twice[i]);
        }
    }

    private static void greatestOdds(Check check) {
        LineFinder x = Rows.program(Rows.input(0, 0), Rows.below(0, 7, 12));
        for (int i = 2; i < 11; i++) {
            Rows.tell(x, Rows.number(1, i));
        }
        Rows.tell(x, Rows.go(24));
        Rows.tell(x, Rows.number(1, 1));
        Rows.exam(x, -1, 1);
        for (int i = 0; i < 11; i++) {
            Rows.exam(x, 0);
        }
        for (int line = 0; line < 12; line++) {
            x.prior(line, 1);
        }
        sets(check, x, 1, 2, 1 << 12);
        check.due("11 passing tests that do not meet {12}", x.odds(2), power(9, 12) << 11);
        check.due("that meet {0}", x.odds(0), power(9, 11));
        check.due("best", x.best(), 1 << 12);
    }

    private static void numbered(Check check) {
        LineFinder x = Rows.fourWays();
        Rows.exam2(x, 0, 0, 1);
        Rows.exam2(x, 0, -1, 1);
        Rows.exam2(x, -1, 0, 1);
        Rows.exam2(x, -1, -1, 1);
        // {4, 5, 6} is ahead of {3, 7, 8}, whose least line is less
        sets(check, x, 1, 2, 4, 72, 112, 392);
        LineFinder two = Rows.twoWays();
        Rows.exam(two, -1);
        Rows.exam(two, 0);
        // {5} is ahead of {2, 4}, whose bits are less
        sets(check, two, 1, 2, 32, 20, 24);
        LineFinder three = Rows.fourWays();
        Rows.exam2(three, 0, 0, 1);
        Rows.exam2(three, 0, -1, 1);
        Rows.exam2(three, -1, 0, 1);
        // {3, 7} is ahead of {4, 5, 6}, whose bits are less
        sets(check, three, 1, 2, 4, 72, 136, 112, 176);
        LineFinder pairs = Rows.fourWays();
        Rows.exam2(pairs, 0, 0, 1);
        Rows.exam2(pairs, -1, 0, 1);
        // by bits {4, 6} is ahead of {3, 7}
        sets(check, pairs, 1, 2, 4, 72, 80, 136, 144);
    }

    private static void bestOfAll(Check check) {
        LineFinder x = straight(13);
        check.due("{12}, of which nothing counts", x.best(), 1 << 12);
        x.prior(0, 9);
        check.due("{0}", x.best(), 1);
        x.prior(11, 9);
        x.prior(0, 2);
        check.due("{11}", x.best(), 1 << 11);
        LineFinder four = Rows.fourWays();
        Rows.exam2(four, 0, 0, 1);
        Rows.exam2(four, 0, -1, 1);
        Rows.exam2(four, -1, 0, 1);
        Rows.exam2(four, -1, -1, 1);
        four.prior(3, 9);
        four.prior(7, 9);
        four.prior(8, 9);
        check.due("the last set, of three", four.best(), 392);
        LineFinder none = Rows.fourWays();
        check.due("there is none", none.best(), -9);
    }

    private static void bestOfSeveral(Check check) {
        LineFinder x = straight(12);
        check.due("all of the same odds", x.best(), 1);
        x.prior(5, 3);
        x.prior(7, 3);
        check.due("two of the same greatest odds", x.best(), 1 << 5);
        LineFinder far = straight(24);
        check.due("{12} to {23} are of the same odds", far.best(), 1 << 12);
        LineFinder pair = Rows.twoWays();
        Rows.exam(pair, -1);
        Rows.exam(pair, 0);
        pair.prior(2, 5);
        pair.prior(4, 5);
        pair.prior(0, 5);
        // a set of one and one of two of the same odds: 5 5 5 8 8 8 each
        check.due("odds of {0}", pair.odds(0), 125 * 512);
        check.due("odds of {2, 4}", pair.odds(3), 125 * 512);
        check.due("the first of both", pair.best(), 1);
    }
}
