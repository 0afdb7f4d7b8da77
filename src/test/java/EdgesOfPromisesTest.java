/** Promises 1 to 30: each answer that one names, at the last number that is taken and the first that is not. */
public final class EdgesOfPromisesTest {
    interface OfNumber {
        long answer(LineFinder x, int number);
    }

    public static void main(String[] args) {
        Sentences s = new Sentences("EdgesOfPromisesTest");
        all(s);
        s.end();
    }

    static void all(Sentences s) {
        s.holds("`LineFinder()`: No LINES, no TESTS.", EdgesOfPromisesTest::newObject);
        s.holds("A LINE more: its number. -1 OP, VARIABLE, INPUT, z of 5, 6; -4, -6 a number of OP 0",
            EdgesOfPromisesTest::lineOfWhatThereIsNot);
        s.holds("-3 there are CHANGES; -6 24.", EdgesOfPromisesTest::lineBehindChanges);
        s.holds("A TEST: its number. -6 there are 12.", EdgesOfPromisesTest::test12);
        s.holds("A number more that should come OUT: how many. -1; -6 there are 6.", EdgesOfPromisesTest::wants6);
        s.holds("A TEST is OPEN, or not: 1; 0 if it was so. -1.", EdgesOfPromisesTest::open);
        s.holds("Whether a TEST PASSES (OPEN or not): 1, 0. -1.", EdgesOfPromisesTest::passes);
        s.holds("How many numbers come OUT by a TEST. -1.", EdgesOfPromisesTest::outs);
        s.holds("The i-th number put OUT. IllegalArgumentException: no such TEST, number.", EdgesOfPromisesTest::out);
        s.holds("STEPS of the RUN of a TEST. -1.", EdgesOfPromisesTest::steps);
        s.holds("The LINE of STEP k of it; -9 there is none. -1.", EdgesOfPromisesTest::step);
        s.holds("How often a TEST does a LINE. -1.", EdgesOfPromisesTest::met);
        s.holds("SCORE of a LINE of a kind (0 .. 2), in least terms: above (part 0), below (1). -1; -2 kind, part.",
            EdgesOfPromisesTest::score);
        s.holds("RANK of a LINE by a kind. -1; -2.", EdgesOfPromisesTest::rank);
        s.holds("PRIOR of a LINE: what it was. -1; -4; -6.", EdgesOfPromisesTest::prior);
        s.holds("How many SUSPECT sets there are.", EdgesOfPromisesTest::suspects);
        s.holds("SUSPECT set i (bits); -9 there is none such.", EdgesOfPromisesTest::suspect);
        s.holds("ODDS of SUSPECT set i; 0: there is none such.", EdgesOfPromisesTest::odds);
        s.holds("BEST (bits); -9 there is none.", EdgesOfPromisesTest::best);
        s.holds("SLICE of the i-th number put OUT by a TEST (bits). -1.", EdgesOfPromisesTest::slice);
        s.holds("How many IFS the RUN of a TEST does. -1.", EdgesOfPromisesTest::ifs);
        s.holds("Whether TURNING the k-th IF MENDS: 1, 0. -1 (also such an IF that there is not).",
            EdgesOfPromisesTest::turn);
        s.holds("The least IF that MENDS; -9 none. -1; -3 it PASSES.", EdgesOfPromisesTest::turnFor);
        s.holds("Whether a LINE CAN MEND a TEST: 1, 0. -1; -3 it is of another OP, or the TEST PASSES.",
            EdgesOfPromisesTest::mends);
        s.holds("The v by which it does. IllegalArgumentException: as mends(), or it can't.", EdgesOfPromisesTest::mendBy);
        s.holds("A CHANGE: its number. -1 (as line(), no such LINE, too); -4; -6 (20, too).", EdgesOfPromisesTest::change);
        s.holds("Whether a TEST PASSES in a VERSION: 1, 0. -1.", EdgesOfPromisesTest::passesIn);
        s.holds("The CHANGE that BROKE a TEST. -1; -3 it PASSES, or FAILS in VERSION 0.", EdgesOfPromisesTest::broke);
        s.holds("LOOKS of that. -1; -3.", EdgesOfPromisesTest::looks);
        s.holds("PARTING: the TEST; -9 there is none OPEN, or no SUSPECT set.", EdgesOfPromisesTest::parting);
        s.holds("0 LINES, 1 TESTS, 2 FAILING, 3 PASSING ones, 4 OPEN ones, 5 CHANGES, 6 CUT RUNS (of all TESTS)",
            EdgesOfPromisesTest::count);
        s.holds("11 .. 16 REFUSALS -1 .. -6", EdgesOfPromisesTest::countOfRefusals);
        s.holds("-9 for another what.", EdgesOfPromisesTest::countOfAnother);
    }

    /** With no test, one and twelve of them: the last is answered, and the number behind it and -1 are nobody. */
    private static void ofTests(Check check, String name, long answerOfLast, OfNumber call) {
        for (int tests : new int[] {0, 1, 12}) {
            LineFinder x = Rows.program(Rows.number(0, 3), Rows.out(0));
            for (int t = 0; t < tests; t++) {
                Rows.exam(x, 0, 7);
            }
            for (int none : new int[] {-1, tests, 12, Rows.LEAST, Rows.MOST}) {
                check.due(name + " of test " + none + " of " + tests, call.answer(x, none), -1);
            }
            check.due("refusals", x.count(11), 5);
            if (tests > 0) {
                check.due(name + " of the last of " + tests, call.answer(x, tests - 1), answerOfLast);
                check.due("no refusal more", x.count(11), 5);
            }
        }
    }

    /** With no line, one and 24 of them, as ofTests. */
    private static void ofLines(Check check, String name, long answerOfLast, OfNumber call) {
        for (int lines : new int[] {0, 1, 24}) {
            LineFinder x = new LineFinder();
            for (int i = 0; i < lines; i++) {
                Rows.tell(x, Rows.number(0, i));
            }
            Rows.exam(x, 0, 7);
            for (int none : new int[] {-1, lines, 24, Rows.LEAST, Rows.MOST}) {
                check.due(name + " of line " + none + " of " + lines, call.answer(x, none), -1);
            }
            check.due("refusals", x.count(11), 5);
            if (lines > 0) {
                check.due(name + " of the last of " + lines, call.answer(x, lines - 1), answerOfLast);
                check.due("no refusal more", x.count(11), 5);
            }
        }
    }

    private static void newObject(Check check) {
        LineFinder x = new LineFinder();
        for (int what = 0; what <= 6; what++) {
            check.due("count(" + what + ")", x.count(what), 0);
        }
        check.dueRefusals("of a new object", x, 0, 0, 0, 0, 0, 0);
        check.due("no set", x.suspects(), 0);
        check.due("no best", x.best(), -9);
        check.due("no parting", x.parting(), -9);
        check.due("no test", x.passes(0), -1);
        check.due("no line", x.rank(0, 0), -1);
        check.due("the first line", x.line(7, 0, 0, 0), 0);
        check.due("the first test", x.test(0, 0, 0, 0), 0);
        check.due("another new object", new LineFinder().count(0), 0);
    }

    private static void lineOfWhatThereIsNot(Check check) {
        LineFinder x = new LineFinder();
        int[][] refused = {
            {-1, 0, 0, 0, -1}, {8, 0, 0, 0, -1}, {0, -1, 0, 0, -1}, {0, 8, 0, 0, -1}, {2, 0, -1, 0, -1},
            {2, 0, 8, 0, -1}, {3, 0, 0, -1, -1}, {3, 0, 0, 8, -1}, {4, 0, -1, 0, -1}, {4, 0, 4, 0, -1},
            {5, 0, 0, -1, -1}, {5, 0, 0, 25, -1}, {6, 0, 0, -1, -1}, {6, 0, 0, 25, -1}, {7, 8, 0, 0, -1},
            {0, 0, -1001, 0, -4}, {0, 0, 1001, 0, -6},
        };
        for (int[] r : refused) {
            check.due("line(" + r[0] + ", " + r[1] + ", " + r[2] + ", " + r[3] + ")", Rows.tell(x, r), r[4]);
        }
        check.due("no line came of them", x.count(0), 0);
        int[][] taken = {
            {0, 7, 1000, 0}, {0, 0, -1000, 0}, {2, 7, 7, 7}, {3, 0, 0, 0}, {4, 7, 3, 0}, {4, 0, 0, 0},
            {5, 7, 7, 24}, {5, 0, 0, 0}, {6, 0, 0, 24}, {6, 0, 0, 0}, {7, 7, 0, 0},
        };
        for (int i = 0; i < taken.length; i++) {
            check.due("line of OP " + taken[i][0], Rows.tell(x, taken[i]), i);
        }
        check.dueRefusals("of lines", x, 15, 0, 0, 1, 0, 1);
    }

    private static void lineBehindChanges(Check check) {
        LineFinder x = Rows.program(Rows.out(0));
        check.due("a refused change", x.change(1, 7, 0, 0, 0), -1);
        check.due("is none", x.line(7, 0, 0, 0), 1);
        check.due("a change", x.change(1, 7, 0, 0, 0), 0);
        check.due("a line behind it", x.line(7, 0, 0, 0), -3);
        check.due("lines", x.count(0), 2);
        LineFinder y = new LineFinder();
        for (int i = 0; i < 24; i++) {
            check.due("line", y.line(7, 0, 0, 0), i);
        }
        check.due("24", y.line(7, 0, 0, 0), -6);
        y.change(0, 7, 0, 0, 0);
        check.due("24, and changes", y.line(7, 0, 0, 0), -3);
    }

    private static void test12(Check check) {
        LineFinder x = new LineFinder();
        for (int t = 0; t < 12; t++) {
            check.due("test", x.test(Rows.LEAST, Rows.MOST, 0, -1), t);
        }
        check.due("there are 12", x.test(0, 0, 0, 0), -6);
        check.due("there are 12 still", x.test(0, 0, 0, 0), -6);
        check.due("tests", x.count(1), 12);
        check.due("refusals", x.count(16), 2);
    }

    private static void wants6(Check check) {
        ofTests(check, "wants", 2, (x, t) -> x.wants(t, 1));
        LineFinder x = new LineFinder();
        x.test(0, 0, 0, 0);
        x.test(0, 0, 0, 0);
        for (int i = 1; i <= 6; i++) {
            check.due("how many", x.wants(1, Rows.MOST), i);
        }
        check.due("there are 6", x.wants(1, 0), -6);
        check.due("the other row is empty", x.wants(0, Rows.LEAST), 1);
        check.due("refusals", x.count(16), 1);
    }

    private static void open(Check check) {
        ofTests(check, "open", 1, (x, t) -> x.open(t, true));
        ofTests(check, "closing", 0, (x, t) -> x.open(t, false));
        LineFinder x = new LineFinder();
        for (int t = 0; t < 12; t++) {
            x.test(0, 0, 0, 0);
        }
        for (int t = 0; t < 12; t += 11) {
            check.due("it was not open", x.open(t, false), 0);
            check.due("it is open", x.open(t, true), 1);
            check.due("it was open", x.open(t, true), 0);
            check.due("one is open", x.count(4), 1);
            check.due("it is closed", x.open(t, false), 1);
            check.due("it was closed", x.open(t, false), 0);
            check.due("none is open", x.count(4), 0);
        }
        for (int t = 0; t < 12; t++) {
            x.open(t, true);
        }
        check.due("all are open", x.count(4), 12);
        check.due("no refusals", x.count(11), 0);
    }

    private static void passes(Check check) {
        ofTests(check, "passes", 0, (x, t) -> x.passes(t));
        LineFinder x = Rows.program(Rows.out(0));
        Rows.exam(x, 0, 0);
        Rows.exam(x, 0, 1);
        for (int turn = 0; turn < 2; turn++) {
            check.due("1", x.passes(0), 1);
            check.due("0", x.passes(1), 0);
            x.open(0, true);
            x.open(1, true);
        }
    }

    private static void outs(Check check) {
        ofTests(check, "outs", 1, (x, t) -> x.outs(t));
        LineFinder x = new LineFinder();
        x.test(0, 0, 0, 0);
        for (int i = 0; i < 8; i++) {
            check.due("outs of " + i + " lines", x.outs(0), Math.min(i, 6));
            Rows.tell(x, Rows.out(0));
        }
    }

    private static void out(Check check) {
        for (int tests : new int[] {0, 1, 12}) {
            LineFinder x = Rows.program(Rows.number(0, 3), Rows.out(0));
            for (int t = 0; t < tests; t++) {
                x.test(0, 0, 0, 0);
            }
            for (int none : new int[] {-1, tests, 12, Rows.LEAST, Rows.MOST}) {
                check.dueThrow("test " + none + " of " + tests, () -> x.out(none, 0));
            }
            if (tests > 0) {
                check.due("the last test of " + tests, x.out(tests - 1, 0), 3);
            }
            check.dueRefusals("behind throws", x, 0, 0, 0, 0, 0, 0);
        }
        for (int outs : new int[] {0, 1, 6}) {
            LineFinder x = Rows.program(Rows.number(0, 3));
            for (int i = 0; i < outs; i++) {
                Rows.tell(x, Rows.out(0));
            }
            x.test(0, 0, 0, 0);
            for (int none : new int[] {-1, outs, 6, Rows.LEAST, Rows.MOST}) {
                check.dueThrow("number " + none + " of " + outs, () -> x.out(0, none));
            }
            if (outs > 0) {
                check.due("the last number of " + outs, x.out(0, outs - 1), 3);
            }
        }
    }

    private static void steps(Check check) {
        ofTests(check, "steps", 2, (x, t) -> x.steps(t));
        LineFinder none = new LineFinder();
        none.test(0, 0, 0, 0);
        check.due("no steps", none.steps(0), 0);
        LineFinder most = Rows.program(Rows.go(0));
        most.test(0, 0, 0, 0);
        check.due("300 steps", most.steps(0), 300);
    }

    private static void step(Check check) {
        ofTests(check, "step", 1, (x, t) -> x.step(t, 1));
        ofTests(check, "a step that there is not", -9, (x, t) -> x.step(t, 2));
        LineFinder none = new LineFinder();
        none.test(0, 0, 0, 0);
        LineFinder two = Rows.program(Rows.go(1), Rows.go(2));
        two.test(0, 0, 0, 0);
        LineFinder most = Rows.program(Rows.go(1), Rows.go(1));
        most.test(0, 0, 0, 0);
        LineFinder[] finders = {none, two, most};
        int[] steps = {0, 2, 300};
        for (int i = 0; i < 3; i++) {
            LineFinder x = finders[i];
            for (int k : new int[] {-1, steps[i], 300, Rows.LEAST, Rows.MOST}) {
                check.due("step " + k + " of " + steps[i], x.step(0, k), -9);
            }
            if (steps[i] > 0) {
                check.due("step 0", x.step(0, 0), 0);
                check.due("the last of " + steps[i], x.step(0, steps[i] - 1), 1);
            }
            check.dueRefusals("-9 is none", x, 0, 0, 0, 0, 0, 0);
        }
    }

    private static void met(Check check) {
        ofTests(check, "met", 1, (x, t) -> x.met(t, 1));
        ofLines(check, "met", 1, (x, line) -> x.met(0, line));
        LineFinder x = Rows.program(Rows.go(0), Rows.out(0));
        x.test(0, 0, 0, 0);
        check.due("300 times", x.met(0, 0), 300);
        check.due("not once", x.met(0, 1), 0);
    }

    private static void score(Check check) {
        ofLines(check, "score", 1, (x, line) -> x.score(line, 2, 1));
        LineFinder x = Rows.twoWays();
        Rows.exam(x, -1);
        Rows.exam(x, -1, 6);
        Rows.exam(x, 0, 5);
        Rows.exam(x, 0, 5);
        // line 0: a 1, b 3, f 1, p 3
        int[][] parts = {{1, 4}, {1, 4}, {1, 2}};
        for (int kind = 0; kind < 3; kind++) {
            for (int part = 0; part < 2; part++) {
                check.due("kind " + kind + ", part " + part, x.score(0, kind, part), parts[kind][part]);
            }
        }
        for (int none : new int[] {-1, 3, Rows.LEAST, Rows.MOST}) {
            check.due("kind " + none, x.score(0, none, 0), -2);
        }
        for (int none : new int[] {-1, 2, Rows.LEAST, Rows.MOST}) {
            check.due("part " + none, x.score(0, 0, none), -2);
        }
        check.dueRefusals("of scores", x, 0, 8, 0, 0, 0, 0);
    }

    private static void rank(Check check) {
        for (int kind = 0; kind < 3; kind++) {
            int by = kind;
            // the same score for all lines: the last of one is first, that of 24 the 24th
            ofLines(check, "rank of the last less how many are ahead", 1, (x, line) -> {
                int rank = x.rank(line, by);
                return rank < 0 ? rank : rank == line ? 1 : 0;
            });
        }
        LineFinder x = Rows.program(Rows.out(0));
        for (int none : new int[] {-1, 3, Rows.LEAST, Rows.MOST}) {
            check.due("kind " + none, x.rank(0, none), -2);
        }
        check.due("kind 2 is the last", x.rank(0, 2), 0);
        check.dueRefusals("of ranks", x, 0, 4, 0, 0, 0, 0);
    }

    private static void prior(Check check) {
        ofLines(check, "prior", 2, (x, line) -> x.prior(line, 5));
        LineFinder x = Rows.program(Rows.out(0), Rows.out(0));
        int was = 2;
        for (int v = 1; v <= 9; v++) {
            check.due("prior " + v, x.prior(0, v), was);
            was = v;
        }
        check.due("0", x.prior(0, 0), -4);
        check.due("-1", x.prior(0, -1), -4);
        check.due("10", x.prior(0, 10), -6);
        check.due("far above", x.prior(0, Rows.MOST), -6);
        check.due("9 still", x.prior(0, 9), 9);
        check.due("the other line's is its own", x.prior(1, 1), 2);
        check.dueRefusals("of priors", x, 0, 0, 0, 2, 0, 2);
    }

    /** Its failing test meets all lines, each of which is a set. */
    private static LineFinder failing(int lines) {
        LineFinder x = new LineFinder();
        for (int i = 0; i < lines; i++) {
            Rows.tell(x, Rows.number(0, i));
        }
        Rows.exam(x, 0, 1);
        return x;
    }

    private static void suspects(Check check) {
        for (int lines : new int[] {0, 1, 2, 24}) {
            check.due("sets of " + lines + " lines", failing(lines).suspects(), lines);
        }
        LineFinder none = Rows.program(Rows.out(0));
        check.due("none without tests", none.suspects(), 0);
        Rows.exam(none, 0, 0);
        check.due("none without failing ones", none.suspects(), 0);
    }

    private static void suspect(Check check) {
        for (int lines : new int[] {0, 1, 24}) {
            LineFinder x = failing(lines);
            for (int none : new int[] {-1, lines, 24, 2324, Rows.LEAST, Rows.MOST}) {
                check.due("set " + none + " of " + lines, x.suspect(none), -9);
            }
            for (int i = 0; i < lines; i++) {
                check.due("set " + i + " of " + lines, x.suspect(i), 1 << i);
            }
            check.dueRefusals("-9 is none", x, 0, 0, 0, 0, 0, 0);
        }
    }

    private static void odds(Check check) {
        for (int lines : new int[] {0, 1, 24}) {
            LineFinder x = failing(lines);
            for (int none : new int[] {-1, lines, 24, 2324, Rows.LEAST, Rows.MOST}) {
                check.due("odds of set " + none + " of " + lines, x.odds(none), 0);
            }
            if (lines > 0) {
                check.due("the first of " + lines, x.odds(0), lines == 1 ? 2 : 2L << 33);
                check.due("the last of " + lines, x.odds(lines - 1), lines == 1 ? 2 : 1L << 36);
            }
            check.dueRefusals("0 is none", x, 0, 0, 0, 0, 0, 0);
        }
    }

    private static void best(Check check) {
        check.due("none of an empty program", failing(0).best(), -9);
        check.due("{0} of one", failing(1).best(), 1);
        LineFinder x = failing(24);
        check.due("{12} of 24", x.best(), 1 << 12);
        x.open(0, true);
        check.due("none is failing", x.best(), -9);
        check.dueRefusals("-9 is none", x, 0, 0, 0, 0, 0, 0);
        LineFinder last = failing(2);
        last.prior(1, 3);
        check.due("bits of the last line", last.best(), 2);
    }

    private static void slice(Check check) {
        ofTests(check, "slice", 3, (x, t) -> x.slice(t, 0));
        for (int outs : new int[] {0, 1, 6}) {
            LineFinder x = Rows.program(Rows.number(0, 3));
            for (int i = 0; i < outs; i++) {
                Rows.tell(x, Rows.out(0));
            }
            x.test(0, 0, 0, 0);
            for (int none : new int[] {-1, outs, 6, Rows.LEAST, Rows.MOST}) {
                check.due("number " + none + " of " + outs, x.slice(0, none), -1);
            }
            if (outs > 0) {
                check.due("the last of " + outs, x.slice(0, outs - 1), 1 | 1 << outs);
            }
            check.dueRefusals("of slices", x, 5, 0, 0, 0, 0, 0);
        }
    }

    private static void ifs(Check check) {
        ofTests(check, "ifs", 0, (x, t) -> x.ifs(t));
        LineFinder x = Rows.program(Rows.number(1, 1), Rows.below(0, 1, 1));
        x.test(0, 0, 0, 0);
        check.due("299 IFs and another step", x.ifs(0), 299);
        LineFinder all = Rows.program(Rows.below(0, 0, 0), Rows.go(0));
        all.test(0, 0, 0, 0);
        check.due("each other step", all.ifs(0), 150);
        LineFinder none = new LineFinder();
        none.test(0, 0, 0, 0);
        check.due("no IF", none.ifs(0), 0);
    }

    private static void turn(Check check) {
        LineFinder none = Rows.program(Rows.out(0));
        none.test(0, 0, 0, 0);
        LineFinder one = Rows.program(Rows.below(0, 0, 2), Rows.out(0));
        one.test(0, 0, 0, 0);
        LineFinder most = Rows.program(Rows.number(1, 1), Rows.below(0, 1, 1));
        most.test(0, 0, 0, 0);
        LineFinder[] finders = {none, one, most};
        int[] ifs = {0, 1, 299};
        for (int i = 0; i < 3; i++) {
            LineFinder x = finders[i];
            for (int k : new int[] {-1, ifs[i], 300, Rows.LEAST, Rows.MOST}) {
                check.due("IF " + k + " of " + ifs[i], x.turn(0, k), -1);
            }
            for (int t : new int[] {-1, 1, Rows.LEAST, Rows.MOST}) {
                check.due("IF 0 of test " + t, x.turn(t, 0), -1);
            }
            if (ifs[i] > 0) {
                check.due("IF 0", x.turn(0, 0), 1);
                check.due("the last of " + ifs[i], x.turn(0, ifs[i] - 1), 1);
            }
            check.dueRefusals("of turns", x, 9, 0, 0, 0, 0, 0);
        }
        one.wants(0, 1);
        check.due("it mends not", one.turn(0, 0), 0);
    }

    private static void turnFor(Check check) {
        ofTests(check, "turnFor", -9, (x, t) -> x.turnFor(t));
        LineFinder x = Rows.program(Rows.below(0, 0, 3), Rows.below(0, 0, 3), Rows.out(0));
        x.test(0, 0, 0, 0);
        check.due("the least of two", x.turnFor(0), 0);
        x.wants(0, 0);
        check.due("it passes", x.turnFor(0), -3);
        x.wants(0, 0);
        check.due("none", x.turnFor(0), -9);
        check.dueRefusals("of turnFor", x, 0, 0, 1, 0, 0, 0);
        LineFinder last = Rows.program(Rows.number(1, 1), Rows.out(0), Rows.below(0, 1, 1));
        Rows.exam(last, 0, 0, 0, 0, 0, 0);
        // six come out by five IFs; the last one, turned, leaves five
        check.due("the last IF", last.turnFor(0), last.ifs(0) - 1);
        check.due("which is", last.ifs(0), 5);
    }

    private static void mends(Check check) {
        ofTests(check, "mends", 1, (x, t) -> x.mends(t, 0));
        ofLines(check, "mends", 0, (x, line) -> x.mends(0, line));
        LineFinder x = Rows.program(Rows.number(0, 3), Rows.out(0), Rows.below(0, 0, 24), Rows.go(24));
        Rows.exam(x, 0, 3);
        check.due("the test passes", x.mends(0, 0), -3);
        x.test(0, 0, 0, 0);
        for (int line = 1; line <= 3; line++) {
            check.due("another OP, line " + line, x.mends(1, line), -3);
        }
        check.due("it can't", x.mends(1, 0), 0);
        x.wants(1, 20);
        check.due("it can", x.mends(1, 0), 1);
        check.dueRefusals("of mends", x, 0, 0, 4, 0, 0, 0);
    }

    private static void mendBy(Check check) {
        LineFinder x = Rows.program(Rows.number(0, 3), Rows.out(0), Rows.below(0, 0, 24), Rows.go(24));
        Rows.exam(x, 0, 3);
        Rows.exam(x, 0, 20);
        Rows.exam(x, 0, 21);
        for (int t : new int[] {-1, 3, 12, Rows.LEAST, Rows.MOST}) {
            check.dueThrow("test " + t, () -> x.mendBy(t, 0));
        }
        for (int line : new int[] {-1, 4, 24, Rows.LEAST, Rows.MOST}) {
            check.dueThrow("line " + line, () -> x.mendBy(1, line));
        }
        for (int line = 1; line <= 3; line++) {
            int other = line;
            check.dueThrow("another OP, line " + line, () -> x.mendBy(1, other));
        }
        check.dueThrow("the test passes", () -> x.mendBy(0, 0));
        check.dueThrow("it can't", () -> x.mendBy(2, 0));
        check.due("it can", x.mendBy(1, 0), 20);
        check.dueRefusals("behind throws", x, 0, 0, 0, 0, 0, 0);
    }

    private static void change(Check check) {
        ofLines(check, "change", 0, (x, line) -> x.change(line, 7, 0, 0, 0));
        LineFinder x = Rows.program(Rows.out(0));
        int[][] refused = {
            {-1, 0, 0, 0, -1}, {8, 0, 0, 0, -1}, {0, -1, 0, 0, -1}, {0, 8, 0, 0, -1}, {1, 0, -1, 0, -1},
            {1, 0, 8, 0, -1}, {1, 0, 0, -1, -1}, {1, 0, 0, 8, -1}, {4, 0, -1, 0, -1}, {4, 0, 4, 0, -1},
            {5, 0, 0, -1, -1}, {5, 0, 0, 25, -1}, {6, 0, 0, -1, -1}, {6, 0, 0, 25, -1}, {7, 8, 0, 0, -1},
            {0, 0, -1001, 0, -4}, {0, 0, 1001, 0, -6},
        };
        for (int[] r : refused) {
            check.due("change to (" + r[0] + ", " + r[1] + ", " + r[2] + ", " + r[3] + ")", Rows.change(x, 0, r), r[4]);
        }
        check.due("no change came of them", x.count(5), 0);
        int[][] taken = {
            {0, 7, 1000, 0}, {0, 0, -1000, 0}, {1, 7, 7, 7}, {1, 0, 0, 0}, {4, 7, 3, 0}, {4, 0, 0, 0},
            {5, 7, 7, 24}, {5, 0, 0, 0}, {6, 0, 0, 24}, {6, 0, 0, 0}, {7, 7, 0, 0},
        };
        for (int i = 0; i < 20; i++) {
            check.due("change " + i, Rows.change(x, 0, taken[i % taken.length]), i);
        }
        check.due("20", Rows.change(x, 0, Rows.out(0)), -6);
        check.due("changes", x.count(5), 20);
        check.dueRefusals("of changes", x, 15, 0, 0, 1, 0, 2);
    }

    private static void passesIn(Check check) {
        ofTests(check, "passesIn", 0, (x, t) -> x.passesIn(0, t));
        for (int changes : new int[] {0, 1, 20}) {
            LineFinder x = Rows.program(Rows.number(0, 0), Rows.out(0));
            Rows.exam(x, 0, changes);
            for (int i = 1; i <= changes; i++) {
                Rows.change(x, 0, Rows.number(0, i));
            }
            for (int none : new int[] {-1, changes + 1, 21, Rows.LEAST, Rows.MOST}) {
                check.due("version " + none + " of " + changes, x.passesIn(none, 0), -1);
            }
            for (int k = 0; k <= changes; k++) {
                check.due("version " + k + " of " + changes, x.passesIn(k, 0), k == changes ? 1 : 0);
            }
            check.dueRefusals("of versions", x, 5, 0, 0, 0, 0, 0);
        }
    }

    /** Test 0 passes as told and is broken by the last change alone, test 1 the other way round. */
    private static LineFinder broken(int changes) {
        LineFinder x = Rows.program(Rows.number(0, 1), Rows.out(0));
        Rows.exam(x, 0, 1);
        Rows.exam(x, 0, 2);
        Rows.exam(x, 0, 3);
        for (int i = 1; i <= changes; i++) {
            Rows.change(x, 0, Rows.number(0, i < changes ? 1 : 2));
        }
        return x;
    }

    private static void broke(Check check) {
        ofTests(check, "broke", -3, (x, t) -> x.broke(t));
        check.due("without changes", broken(0).broke(0), -3);
        for (int changes : new int[] {1, 2, 20}) {
            LineFinder x = broken(changes);
            check.due("the last of " + changes, x.broke(0), changes - 1);
            check.due("it passes", x.broke(1), -3);
            check.due("it fails in version 0", x.broke(2), -3);
            check.dueRefusals("of broke", x, 0, 0, 2, 0, 0, 0);
        }
    }

    private static void looks(Check check) {
        ofTests(check, "looks", -3, (x, t) -> x.looks(t));
        check.due("without changes", broken(0).looks(0), -3);
        int[] changes = {1, 2, 3, 4, 20};
        int[] looks = {0, 1, 2, 2, 5};
        for (int i = 0; i < changes.length; i++) {
            LineFinder x = broken(changes[i]);
            check.due("looks of " + changes[i], x.looks(0), looks[i]);
            check.due("it passes", x.looks(1), -3);
            check.due("it fails in version 0", x.looks(2), -3);
            check.dueRefusals("of looks", x, 0, 0, 2, 0, 0, 0);
        }
    }

    private static void parting(Check check) {
        LineFinder x = failing(2);
        check.due("none is open", x.parting(), -9);
        for (int t = 1; t < 12; t++) {
            x.test(0, 0, 0, 0);
        }
        check.due("none is open of 12", x.parting(), -9);
        x.open(11, true);
        check.due("the last of 12", x.parting(), 11);
        x.open(0, true);
        check.due("open ones, but none that fails", x.parting(), -9);
        x.open(0, false);
        x.open(1, true);
        check.due("the least of two", x.parting(), 1);
        check.dueRefusals("-9 is none", x, 0, 0, 0, 0, 0, 0);
        LineFinder empty = failing(0);
        empty.test(0, 0, 0, 0);
        empty.open(1, true);
        check.due("open and failing, but no line", empty.parting(), -9);
    }

    private static void count(Check check) {
        LineFinder x = Rows.program(Rows.input(0, 0), Rows.below(0, 7, 1), Rows.out(0));
        Rows.exam(x, 4, 4);
        Rows.exam(x, 4, 5);
        Rows.exam(x, -1);
        Rows.exam(x, -1);
        x.open(3, true);
        Rows.exam(x, 4, 4);
        x.open(4, true);
        // passes, fails, fails as it is cut, cut and open, open
        int[] counts = {3, 5, 2, 1, 2, 0, 2};
        for (int what = 0; what <= 6; what++) {
            check.due("count(" + what + ")", x.count(what), counts[what]);
        }
        Rows.change(x, 1, Rows.number(1, 1));
        // passes, fails, fails, open, open: none is cut
        int[] then = {3, 5, 2, 1, 2, 1, 0};
        for (int what = 0; what <= 6; what++) {
            check.due("count(" + what + ") then", x.count(what), then[what]);
        }
        LineFinder full = Rows.program();
        for (int i = 0; i < 24; i++) {
            Rows.tell(full, Rows.go(0));
        }
        for (int t = 0; t < 12; t++) {
            full.test(0, 0, 0, 0);
        }
        for (int i = 0; i < 20; i++) {
            Rows.change(full, i, Rows.go(0));
        }
        int[] most = {24, 12, 12, 0, 0, 20, 12};
        for (int what = 0; what <= 6; what++) {
            check.due("count(" + what + ") of a full one", full.count(what), most[what]);
        }
    }

    private static void countOfRefusals(Check check) {
        LineFinder x = failing(1);
        x.passes(1);
        for (int i = 0; i < 2; i++) x.rank(0, 3);
        for (int i = 0; i < 3; i++) x.broke(0);
        for (int i = 0; i < 4; i++) x.prior(0, 0);
        for (int i = 0; i < 6; i++) x.prior(0, 10);
        int[] counts = {1, 2, 3, 4, 0, 6};
        for (int i = 0; i < 6; i++) {
            check.due("count(" + (11 + i) + ")", x.count(11 + i), counts[i]);
        }
        check.due("count(10)", x.count(10), -9);
        check.due("count(17)", x.count(17), -9);
    }

    private static void countOfAnother(Check check) {
        LineFinder x = failing(1);
        for (int what : new int[] {-1, 7, 8, 9, 10, 17, 18, -11, -16, Rows.LEAST, Rows.MOST}) {
            check.due("count(" + what + ")", x.count(what), -9);
        }
        check.dueRefusals("-9 is none", x, 0, 0, 0, 0, 0, 0);
        check.due("count(0), the first", x.count(0), 1);
        check.due("count(6), the last of them", x.count(6), 0);
    }
}
