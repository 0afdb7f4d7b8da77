/** The document's REFUSALS: each number, their order, and that nothing changes by them or by a throw. */
public final class EdgesOfRefusalsTest {
    private static final String ORDER = "the first that fits in the order in which it tells them";
    private static final String NOTHING = "nothing changes but how many there were";
    private static final String THROWS = "What throws changes nothing, and is not counted";

    public static void main(String[] args) {
        Sentences s = new Sentences("EdgesOfRefusalsTest");
        all(s);
        s.end();
    }

    static void all(Sentences s) {
        s.holds(ORDER, "line", EdgesOfRefusalsTest::orderOfLine);
        s.holds(ORDER, "score", EdgesOfRefusalsTest::orderOfScore);
        s.holds(ORDER, "rank", EdgesOfRefusalsTest::orderOfRank);
        s.holds(ORDER, "prior", EdgesOfRefusalsTest::orderOfPrior);
        s.holds(ORDER, "mends", EdgesOfRefusalsTest::orderOfMends);
        s.holds(ORDER, "change", EdgesOfRefusalsTest::orderOfChange);
        s.holds(ORDER, "one call is one refusal", EdgesOfRefusalsTest::countedOnce);
        s.holds(NOTHING, "lines and changes", EdgesOfRefusalsTest::nothingByLinesAndChanges);
        s.holds(NOTHING, "tests", EdgesOfRefusalsTest::nothingByTests);
        s.holds(NOTHING, "scores and priors", EdgesOfRefusalsTest::nothingByScoresAndPriors);
        s.holds(NOTHING, "causes", EdgesOfRefusalsTest::nothingByCauses);
        s.holds(NOTHING, "versions", EdgesOfRefusalsTest::nothingByVersions);
        s.holds(NOTHING, "what is no refusal", EdgesOfRefusalsTest::nothingByNone);
        s.holds("-1 NOBODY: no such LINE, VARIABLE, INPUT, TEST, CHANGE, OP", EdgesOfRefusalsTest::nobody);
        s.holds("-2 OTHER: what, a kind of SCORE", EdgesOfRefusalsTest::other);
        s.holds("-3 STATE: it is not as it must be", EdgesOfRefusalsTest::state);
        s.holds("-4 BELOW: a number below the least", EdgesOfRefusalsTest::belowTheLeast);
        s.holds("-6 ROOM: a number above the greatest, no room", EdgesOfRefusalsTest::room);
        s.holds(THROWS, "out", EdgesOfRefusalsTest::throwsOfOut);
        s.holds(THROWS, "mendBy", EdgesOfRefusalsTest::throwsOfMendBy);
    }

    /** Two ways, and tests 0 that fails, 1 that passes, 2 that is open. */
    private static LineFinder told() {
        LineFinder x = Rows.twoWays();
        Rows.exam(x, -1, 5);
        Rows.exam(x, 0, 5);
        Rows.exam(x, -1, 6);
        x.open(2, true);
        x.prior(0, 3);
        x.prior(5, 7);
        return x;
    }

    /** As told, with two changes: test 1 fails now, and test 0 in both versions. */
    private static LineFinder changed() {
        LineFinder x = told();
        Rows.change(x, 2, Rows.number(1, 4));
        Rows.change(x, 4, Rows.number(1, 6));
        return x;
    }

    /** No room: 24 lines, 12 tests, six numbers in the row of each of three. */
    private static LineFinder full() {
        LineFinder x = Rows.twoWays();
        for (int i = 6; i < 24; i++) {
            Rows.tell(x, Rows.number(2, i));
        }
        Rows.exam(x, 0, 5, 5, 5, 5, 5, 5);
        Rows.exam(x, -1, 6, 6, 6, 6, 6, 6);
        for (int t = 2; t < 11; t++) {
            Rows.exam(x, t - 6, 5);
        }
        Rows.exam(x, -7, 1, 2, 3, 4, 5, 6);
        x.open(3, true);
        return x;
    }

    /** No room, and none for changes. */
    private static LineFinder fullOfChanges() {
        LineFinder x = full();
        for (int i = 0; i < 20; i++) {
            Rows.change(x, 2, Rows.number(1, 20 - i));
        }
        return x;
    }

    private static void orderOfLine(Check check) {
        Twins.refused(check, "nobody ahead of below", EdgesOfRefusalsTest::told, -1, x -> x.line(0, 8, -1001, 0));
        Twins.refused(check, "nobody ahead of above", EdgesOfRefusalsTest::told, -1, x -> x.line(0, -1, 1001, 0));
        Twins.refused(check, "OP ahead of state", EdgesOfRefusalsTest::changed, -1, x -> x.line(8, 0, 0, 0));
        Twins.refused(check, "VARIABLE ahead of state", EdgesOfRefusalsTest::changed, -1, x -> x.line(7, 8, 0, 0));
        Twins.refused(check, "INPUT ahead of state", EdgesOfRefusalsTest::changed, -1, x -> x.line(4, 0, 4, 0));
        Twins.refused(check, "z ahead of state", EdgesOfRefusalsTest::changed, -1, x -> x.line(6, 0, 0, 25));
        Twins.refused(check, "below ahead of state", EdgesOfRefusalsTest::changed, -4, x -> x.line(0, 0, -1001, 0));
        Twins.refused(check, "above ahead of state", EdgesOfRefusalsTest::changed, -6, x -> x.line(0, 0, 1001, 0));
        Twins.refused(check, "nobody ahead of room", EdgesOfRefusalsTest::full, -1, x -> x.line(5, 0, 0, -1));
        Twins.refused(check, "below ahead of room", EdgesOfRefusalsTest::full, -4, x -> x.line(0, 0, -1001, 0));
        Twins.refused(check, "state ahead of room", EdgesOfRefusalsTest::fullOfChanges, -3, x -> x.line(7, 0, 0, 0));
        Twins.refused(check, "nobody ahead of all", EdgesOfRefusalsTest::fullOfChanges, -1, x -> x.line(0, 8, 1001, 0));
    }

    private static void orderOfScore(Check check) {
        Twins.refused(check, "nobody ahead of kind", EdgesOfRefusalsTest::told, -1, x -> x.score(6, 3, 0));
        Twins.refused(check, "nobody ahead of part", EdgesOfRefusalsTest::told, -1, x -> x.score(-1, 0, 2));
        Twins.refused(check, "nobody ahead of both", EdgesOfRefusalsTest::told, -1, x -> x.score(6, -1, -1));
        Twins.refused(check, "kind and part", EdgesOfRefusalsTest::told, -2, x -> x.score(5, 3, 2));
    }

    private static void orderOfRank(Check check) {
        Twins.refused(check, "nobody ahead of kind", EdgesOfRefusalsTest::told, -1, x -> x.rank(6, 3));
        Twins.refused(check, "nobody ahead of kind -1", EdgesOfRefusalsTest::told, -1, x -> x.rank(-1, -1));
    }

    private static void orderOfPrior(Check check) {
        Twins.refused(check, "nobody ahead of below", EdgesOfRefusalsTest::told, -1, x -> x.prior(6, 0));
        Twins.refused(check, "nobody ahead of above", EdgesOfRefusalsTest::told, -1, x -> x.prior(-1, 10));
    }

    private static void orderOfMends(Check check) {
        Twins.refused(check, "no line, and the test passes", EdgesOfRefusalsTest::told, -1, x -> x.mends(1, 6));
        Twins.refused(check, "no test, and another OP", EdgesOfRefusalsTest::told, -1, x -> x.mends(3, 1));
        Twins.refused(check, "another OP, and the test passes", EdgesOfRefusalsTest::told, -3, x -> x.mends(1, 1));
    }

    private static void orderOfChange(Check check) {
        Twins.refused(check, "LINE ahead of below", EdgesOfRefusalsTest::told, -1, x -> x.change(6, 0, 0, -1001, 0));
        Twins.refused(check, "LINE ahead of above", EdgesOfRefusalsTest::told, -1, x -> x.change(-1, 0, 0, 1001, 0));
        Twins.refused(check, "VARIABLE ahead of below", EdgesOfRefusalsTest::told, -1, x -> x.change(0, 0, 8, -1001, 0));
        Twins.refused(check, "LINE ahead of room", EdgesOfRefusalsTest::fullOfChanges, -1, x -> x.change(24, 7, 0, 0, 0));
        Twins.refused(check, "OP ahead of room", EdgesOfRefusalsTest::fullOfChanges, -1, x -> x.change(0, 8, 0, 0, 0));
        Twins.refused(check, "z ahead of room", EdgesOfRefusalsTest::fullOfChanges, -1, x -> x.change(0, 5, 0, 0, 25));
        Twins.refused(check, "below ahead of room", EdgesOfRefusalsTest::fullOfChanges, -4,
            x -> x.change(0, 0, 0, -1001, 0));
    }

    private static void countedOnce(Check check) {
        LineFinder x = fullOfChanges();
        x.line(8, 8, 8, 25);
        x.line(1, 8, 8, 8);
        x.passesIn(21, 12);
        x.met(12, 24);
        x.mends(12, 24);
        x.turn(12, -1);
        check.dueRefusals("six times nobody, twice and more in each", x, 6, 0, 0, 0, 0, 0);
        x.score(0, 3, 2);
        check.dueRefusals("kind and part", x, 6, 1, 0, 0, 0, 0);
        x.change(0, 0, 0, 1001, 0);
        check.dueRefusals("a number above, and no room", x, 6, 1, 0, 0, 0, 1);
    }

    private static void nothingByLinesAndChanges(Check check) {
        Twins.refused(check, "line of no OP", EdgesOfRefusalsTest::told, -1, x -> x.line(8, 0, 0, 0));
        Twins.refused(check, "line of a number below", EdgesOfRefusalsTest::told, -4, x -> x.line(0, 0, -1001, 0));
        Twins.refused(check, "line of a number above", EdgesOfRefusalsTest::told, -6, x -> x.line(0, 0, 1001, 0));
        Twins.refused(check, "line behind changes", EdgesOfRefusalsTest::changed, -3, x -> x.line(7, 0, 0, 0));
        Twins.refused(check, "the 25th line", EdgesOfRefusalsTest::full, -6, x -> x.line(7, 0, 0, 0));
        Twins.refused(check, "change of no line", EdgesOfRefusalsTest::told, -1, x -> x.change(6, 7, 0, 0, 0));
        Twins.refused(check, "change to no OP", EdgesOfRefusalsTest::told, -1, x -> x.change(5, 8, 0, 0, 0));
        Twins.refused(check, "change to no VARIABLE", EdgesOfRefusalsTest::changed, -1, x -> x.change(5, 7, 8, 0, 0));
        Twins.refused(check, "change to below", EdgesOfRefusalsTest::changed, -4, x -> x.change(4, 0, 1, -1001, 0));
        Twins.refused(check, "change to above", EdgesOfRefusalsTest::changed, -6, x -> x.change(4, 0, 1, 1001, 0));
        Twins.refused(check, "the 21st change", EdgesOfRefusalsTest::fullOfChanges, -6, x -> x.change(2, 0, 1, 5, 0));
    }

    private static void nothingByTests(Check check) {
        Twins.refused(check, "the 13th test", EdgesOfRefusalsTest::full, -6, x -> x.test(1, 2, 3, 4));
        Twins.refused(check, "wants of no test", EdgesOfRefusalsTest::told, -1, x -> x.wants(3, 5));
        Twins.refused(check, "wants of test -1", EdgesOfRefusalsTest::told, -1, x -> x.wants(-1, 5));
        Twins.refused(check, "the seventh number", EdgesOfRefusalsTest::full, -6, x -> x.wants(0, 5));
        Twins.refused(check, "the seventh number of the last", EdgesOfRefusalsTest::full, -6, x -> x.wants(11, 5));
        Twins.refused(check, "open of no test", EdgesOfRefusalsTest::told, -1, x -> x.open(3, true));
        Twins.refused(check, "open of test -1", EdgesOfRefusalsTest::told, -1, x -> x.open(-1, true));
        Twins.refused(check, "closing no test", EdgesOfRefusalsTest::full, -1, x -> x.open(12, false));
        Twins.refused(check, "passes", EdgesOfRefusalsTest::told, -1, x -> x.passes(3));
        Twins.refused(check, "outs", EdgesOfRefusalsTest::told, -1, x -> x.outs(3));
        Twins.refused(check, "steps", EdgesOfRefusalsTest::told, -1, x -> x.steps(3));
        Twins.refused(check, "step", EdgesOfRefusalsTest::told, -1, x -> x.step(3, 0));
        Twins.refused(check, "met, no test", EdgesOfRefusalsTest::told, -1, x -> x.met(3, 0));
        Twins.refused(check, "met, no line", EdgesOfRefusalsTest::told, -1, x -> x.met(0, 6));
    }

    private static void nothingByScoresAndPriors(Check check) {
        Twins.refused(check, "score, no line", EdgesOfRefusalsTest::told, -1, x -> x.score(6, 0, 0));
        Twins.refused(check, "score, no kind", EdgesOfRefusalsTest::told, -2, x -> x.score(0, 3, 0));
        Twins.refused(check, "score, no part", EdgesOfRefusalsTest::told, -2, x -> x.score(0, 0, 2));
        Twins.refused(check, "rank, no line", EdgesOfRefusalsTest::told, -1, x -> x.rank(6, 0));
        Twins.refused(check, "rank, no kind", EdgesOfRefusalsTest::told, -2, x -> x.rank(0, 3));
        Twins.refused(check, "prior, no line", EdgesOfRefusalsTest::told, -1, x -> x.prior(6, 5));
        Twins.refused(check, "prior, below", EdgesOfRefusalsTest::told, -4, x -> x.prior(0, 0));
        Twins.refused(check, "prior, above", EdgesOfRefusalsTest::told, -6, x -> x.prior(0, 10));
    }

    private static void nothingByCauses(Check check) {
        Twins.refused(check, "slice, no test", EdgesOfRefusalsTest::told, -1, x -> x.slice(3, 0));
        Twins.refused(check, "slice, no number", EdgesOfRefusalsTest::told, -1, x -> x.slice(0, 1));
        Twins.refused(check, "ifs", EdgesOfRefusalsTest::told, -1, x -> x.ifs(3));
        Twins.refused(check, "turn, no test", EdgesOfRefusalsTest::told, -1, x -> x.turn(3, 0));
        Twins.refused(check, "turn, no IF", EdgesOfRefusalsTest::told, -1, x -> x.turn(0, 1));
        Twins.refused(check, "turnFor, no test", EdgesOfRefusalsTest::told, -1, x -> x.turnFor(3));
        Twins.refused(check, "turnFor, it passes", EdgesOfRefusalsTest::told, -3, x -> x.turnFor(1));
        Twins.refused(check, "mends, no test", EdgesOfRefusalsTest::told, -1, x -> x.mends(3, 0));
        Twins.refused(check, "mends, no line", EdgesOfRefusalsTest::told, -1, x -> x.mends(0, 6));
        Twins.refused(check, "mends, another OP", EdgesOfRefusalsTest::told, -3, x -> x.mends(0, 1));
        Twins.refused(check, "mends, it passes", EdgesOfRefusalsTest::told, -3, x -> x.mends(1, 0));
    }

    private static void nothingByVersions(Check check) {
        Twins.refused(check, "passesIn, no version", EdgesOfRefusalsTest::changed, -1, x -> x.passesIn(3, 0));
        Twins.refused(check, "passesIn, version -1", EdgesOfRefusalsTest::changed, -1, x -> x.passesIn(-1, 0));
        Twins.refused(check, "passesIn, no test", EdgesOfRefusalsTest::changed, -1, x -> x.passesIn(0, 3));
        Twins.refused(check, "broke, no test", EdgesOfRefusalsTest::changed, -1, x -> x.broke(3));
        Twins.refused(check, "broke, it fails in version 0", EdgesOfRefusalsTest::changed, -3, x -> x.broke(0));
        Twins.refused(check, "broke, it passes", EdgesOfRefusalsTest::told, -3, x -> x.broke(1));
        Twins.refused(check, "looks, no test", EdgesOfRefusalsTest::changed, -1, x -> x.looks(3));
        Twins.refused(check, "looks, it fails in version 0", EdgesOfRefusalsTest::changed, -3, x -> x.looks(0));
        Twins.refused(check, "looks, it passes", EdgesOfRefusalsTest::told, -3, x -> x.looks(1));
    }

    /** Answers of none and of what was so are no refusals: they are not counted either. */
    private static void nothingByNone(Check check) {
        Twins.idle(check, "step", EdgesOfRefusalsTest::told, -9, x -> x.step(0, 4));
        Twins.idle(check, "step -1", EdgesOfRefusalsTest::told, -9, x -> x.step(0, -1));
        Twins.idle(check, "suspect", EdgesOfRefusalsTest::told, -9, x -> x.suspect(4));
        Twins.idle(check, "suspect -1", EdgesOfRefusalsTest::told, -9, x -> x.suspect(-1));
        Twins.idle(check, "odds", EdgesOfRefusalsTest::told, 0, x -> x.odds(4));
        Twins.idle(check, "best", LineFinder::new, -9, LineFinder::best);
        Twins.idle(check, "parting", LineFinder::new, -9, LineFinder::parting);
        Twins.idle(check, "turnFor", EdgesOfRefusalsTest::full, -9, x -> x.turnFor(11));
        Twins.idle(check, "count", EdgesOfRefusalsTest::told, -9, x -> x.count(7));
        Twins.idle(check, "open, it was so", EdgesOfRefusalsTest::told, 0, x -> x.open(2, true));
        Twins.idle(check, "closed, it was so", EdgesOfRefusalsTest::told, 0, x -> x.open(0, false));
    }

    private static void nobody(Check check) {
        LineFinder x = changed();
        check.due("no such LINE", x.rank(6, 0), -1);
        check.due("no such VARIABLE", x.change(0, 7, 8, 0, 0), -1);
        check.due("no such INPUT", x.change(0, 4, 0, 4, 0), -1);
        check.due("no such TEST", x.passes(3), -1);
        check.due("no such CHANGE", x.passesIn(3, 0), -1);
        check.due("no such OP", x.change(0, 8, 0, 0, 0), -1);
        check.dueRefusals("of nobody", x, 6, 0, 0, 0, 0, 0);
    }

    private static void other(Check check) {
        LineFinder x = changed();
        check.due("kind 3 of score", x.score(0, 3, 0), -2);
        check.due("kind -1 of score", x.score(0, -1, 0), -2);
        check.due("kind 3 of rank", x.rank(0, 3), -2);
        check.due("kind -1 of rank", x.rank(0, -1), -2);
        check.due("part 2", x.score(0, 0, 2), -2);
        check.due("part -1", x.score(0, 0, -1), -2);
        check.due("another what of count: promise 30 says -9", x.count(7), -9);
        check.dueRefusals("of others", x, 0, 6, 0, 0, 0, 0);
    }

    private static void state(Check check) {
        LineFinder x = changed();
        check.due("line behind changes", x.line(7, 0, 0, 0), -3);
        check.due("turnFor of what passes", x.turnFor(2), -3);
        check.due("mends of what passes", x.mends(2, 0), -3);
        check.due("mends of an IF", x.mends(0, 1), -3);
        check.due("broke of what passes", x.broke(2), -3);
        check.due("looks of what fails in version 0", x.looks(0), -3);
        check.dueRefusals("of the state", x, 0, 0, 6, 0, 0, 0);
    }

    private static void belowTheLeast(Check check) {
        LineFinder x = told();
        check.due("line -1000", x.line(0, 0, -1000, 0), 6);
        check.due("line -1001", x.line(0, 0, -1001, 0), -4);
        check.due("change to -1000", x.change(0, 0, 0, -1000, 0), 0);
        check.due("change to -1001", x.change(0, 0, 0, -1001, 0), -4);
        check.due("prior 1", x.prior(1, 1), 2);
        check.due("prior 0", x.prior(1, 0), -4);
        check.due("prior of the least int", x.prior(1, Rows.LEAST), -4);
        check.dueRefusals("of what is below", x, 0, 0, 0, 4, 0, 0);
    }

    private static void room(Check check) {
        LineFinder x = told();
        check.due("line 1000", x.line(0, 0, 1000, 0), 6);
        check.due("line 1001", x.line(0, 0, 1001, 0), -6);
        check.due("change to 1000", x.change(0, 0, 0, 1000, 0), 0);
        check.due("change to 1001", x.change(0, 0, 0, 1001, 0), -6);
        check.due("prior 9", x.prior(1, 9), 2);
        check.due("prior 10", x.prior(1, 10), -6);
        check.due("prior of the greatest int", x.prior(1, Rows.MOST), -6);
        check.dueRefusals("of what is above", x, 0, 0, 0, 0, 0, 4);
        LineFinder y = full();
        check.due("no room for a line", y.line(7, 0, 0, 0), -6);
        check.due("no room for a test", y.test(0, 0, 0, 0), -6);
        check.due("no room in a row", y.wants(0, 0), -6);
        LineFinder z = fullOfChanges();
        check.due("no room for a change", z.change(0, 7, 0, 0, 0), -6);
        check.dueRefusals("of room", y, 0, 0, 0, 0, 0, 3);
        check.dueRefusals("of room for changes", z, 0, 0, 0, 0, 0, 1);
    }

    private static void throwsOfOut(Check check) {
        Twins.thrown(check, "out of no test", EdgesOfRefusalsTest::told, x -> x.out(3, 0));
        Twins.thrown(check, "out of test -1", EdgesOfRefusalsTest::told, x -> x.out(-1, 0));
        Twins.thrown(check, "out of test 12", EdgesOfRefusalsTest::full, x -> x.out(12, 0));
        Twins.thrown(check, "number 1 of one", EdgesOfRefusalsTest::told, x -> x.out(0, 1));
        Twins.thrown(check, "number -1", EdgesOfRefusalsTest::changed, x -> x.out(0, -1));
        Twins.thrown(check, "number 0 of none", LineFinder::new, x -> x.out(0, 0));
    }

    private static void throwsOfMendBy(Check check) {
        Twins.thrown(check, "mendBy of no test", EdgesOfRefusalsTest::told, x -> x.mendBy(3, 0));
        Twins.thrown(check, "mendBy of test -1", EdgesOfRefusalsTest::told, x -> x.mendBy(-1, 0));
        Twins.thrown(check, "mendBy of no line", EdgesOfRefusalsTest::told, x -> x.mendBy(0, 6));
        Twins.thrown(check, "mendBy of line -1", EdgesOfRefusalsTest::changed, x -> x.mendBy(0, -1));
        Twins.thrown(check, "mendBy of an IF", EdgesOfRefusalsTest::told, x -> x.mendBy(0, 1));
        Twins.thrown(check, "mendBy of what passes", EdgesOfRefusalsTest::told, x -> x.mendBy(1, 0));
        Twins.thrown(check, "mendBy of what can't", EdgesOfRefusalsTest::changed, x -> x.mendBy(0, 2));
    }
}
