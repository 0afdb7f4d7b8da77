/** Part IV of the document: changes, versions, halves and the parting test at their edges. */
public final class EdgesOfChangesTest {
    public static void main(String[] args) {
        Sentences s = new Sentences("EdgesOfChangesTest");
        all(s);
        s.end();
    }

    static void all(Sentences s) {
        s.holds("CHANGES have numbers from 0 on (20 at most)", EdgesOfChangesTest::changes20);
        s.holds("a LINE that there is becomes another one", EdgesOfChangesTest::aLineThatThereIs);
        s.holds("VERSION k of the PROGRAM: that with the first k CHANGES", EdgesOfChangesTest::firstChanges);
        s.holds("(0: as it was told; all: as it is)", EdgesOfChangesTest::firstAndLastVersion);
        s.holds("BROKE: of a TEST that FAILS in the last VERSION and PASSES in VERSION 0", EdgesOfChangesTest::canBreak);
        s.holds("BY HALVES: low 0, high all", EdgesOfChangesTest::lowAndHighAtFirst);
        s.holds("as long as high is more than low and 1", EdgesOfChangesTest::asLongAs);
        s.holds("the middle (low and high, by 2, cut) is LOOKED at", EdgesOfChangesTest::middleIsCut);
        s.holds("FAILS: high is that, else low", EdgesOfChangesTest::ofTwenty);
        s.holds("high is the VERSION; CHANGE high less 1 BROKE it", EdgesOfChangesTest::highIsTheVersion);
        s.holds("LOOKS: how many", EdgesOfChangesTest::howManyLooks);
        s.holds("(VERSIONS between may go to and fro.)", EdgesOfChangesTest::toAndFro);
        s.holds("of TESTS whose rows are not judged (told as OPEN)", EdgesOfChangesTest::openOnesAlone);
        s.holds("SUSPECT sets that it MEETS (a LINE of)", EdgesOfChangesTest::meetsALineOf);
        s.holds("differ least from a half of all (twice that sum less all, its amount)", EdgesOfChangesTest::nearestToAHalf);
        s.holds("differ least from a half of all (twice that sum less all, its amount)", "great odds",
            EdgesOfChangesTest::greatOdds);
        s.holds("of several the least.", EdgesOfChangesTest::ofSeveralTheLeast);
        s.holds("OPEN TESTS are neither FAILING nor PASSING", EdgesOfChangesTest::openIsNeither);
    }

    /** Puts out what line 0 says (1 as told), which test 0 wants to be 1; changes make it the values. */
    private static LineFinder versions(int... values) {
        LineFinder x = Rows.program(Rows.number(0, 1), Rows.out(0));
        Rows.exam(x, 0, 1);
        for (int v : values) {
            Rows.change(x, 0, Rows.number(0, v));
        }
        return x;
    }

    /** So many changes, of which the one of that number and all behind it are bad. */
    private static LineFinder brokenBy(int bad, int changes) {
        int[] values = new int[changes];
        for (int i = 0; i < changes; i++) {
            values[i] = i < bad ? 1 : 9;
        }
        return versions(values);
    }

    private static void changes20(Check check) {
        LineFinder x = versions();
        for (int i = 0; i < 20; i++) {
            check.due("change " + i, Rows.change(x, 0, Rows.number(0, 100 + i)), i);
        }
        check.due("the 21st", Rows.change(x, 0, Rows.number(0, 1)), -6);
        check.due("changes", x.count(5), 20);
        check.due("the 20th holds", x.out(0, 0), 119);
        check.due("version 20", x.passesIn(20, 0), 0);
        check.due("no version 21", x.passesIn(21, 0), -1);
    }

    private static void aLineThatThereIs(Check check) {
        LineFinder empty = new LineFinder();
        check.due("line 0 of an empty program", Rows.change(empty, 0, Rows.out(0)), -1);
        LineFinder x = versions();
        check.due("line 2 of two", Rows.change(x, 2, Rows.out(0)), -1);
        check.due("line -1", Rows.change(x, -1, Rows.out(0)), -1);
        check.due("line 1, the last", Rows.change(x, 1, Rows.go(24)), 0);
        check.due("it puts nothing out now", x.outs(0), 0);
        check.due("line 0", Rows.change(x, 0, Rows.out(0)), 1);
        check.due("it puts out now", x.outs(0), 1);
        check.due("no line more", x.count(0), 2);
        check.due("to the same", Rows.change(x, 0, Rows.out(0)), 2);
        LineFinder full = new LineFinder();
        for (int i = 0; i < 24; i++) {
            Rows.tell(full, Rows.number(0, i));
        }
        full.test(0, 0, 0, 0);
        check.due("line 24 of 24", Rows.change(full, 24, Rows.out(0)), -1);
        check.due("line 23 of 24", Rows.change(full, 23, Rows.out(0)), 0);
        check.due("it puts out", full.out(0, 0), 22);
    }

    private static void firstChanges(Check check) {
        LineFinder x = versions(2, 1, 3, 1);
        Rows.change(x, 1, Rows.out(1));
        Rows.change(x, 1, Rows.out(0));
        int[] passes = {1, 0, 1, 0, 1, 0, 1};
        for (int k = 0; k < passes.length; k++) {
            check.due("version " + k, x.passesIn(k, 0), passes[k]);
        }
        for (int k = passes.length - 1; k >= 0; k--) {
            check.due("version " + k + ", back again", x.passesIn(k, 0), passes[k]);
        }
        check.due("no version 7", x.passesIn(7, 0), -1);
        check.due("no version -1", x.passesIn(-1, 0), -1);
    }

    private static void firstAndLastVersion(Check check) {
        LineFinder x = versions();
        check.due("version 0 without changes", x.passesIn(0, 0), 1);
        check.due("no version 1", x.passesIn(1, 0), -1);
        Rows.change(x, 0, Rows.number(0, 2));
        check.due("as it was told", x.passesIn(0, 0), 1);
        check.due("as it is", x.passesIn(1, 0), 0);
        check.due("so it is", x.passes(0), 0);
        x.wants(0, 1);
        check.due("the row is that of now", x.passesIn(0, 0), 0);
        LineFinder all = brokenBy(19, 20);
        check.due("version 19", all.passesIn(19, 0), 1);
        check.due("version 20, as it is", all.passesIn(20, 0), 0);
        check.due("so it is", all.passes(0), 0);
    }

    private static void canBreak(Check check) {
        LineFinder x = versions();
        check.due("it passes, without changes", x.broke(0), -3);
        Rows.exam(x, 0, 2);
        check.due("it fails, without changes", x.broke(1), -3);
        check.due("looks for it", x.looks(1), -3);
        Rows.change(x, 0, Rows.number(0, 3));
        check.due("it is broken", x.broke(0), 0);
        check.due("it fails in both", x.broke(1), -3);
        Rows.change(x, 0, Rows.number(0, 2));
        check.due("it passes in the last alone", x.broke(1), -3);
        check.due("looks for that", x.looks(1), -3);
        Rows.change(x, 0, Rows.number(0, 1));
        check.due("it passes in both", x.broke(0), -3);
        check.due("looks for that", x.looks(0), -3);
        check.due("it fails in both again", x.broke(1), -3);
    }

    private static void lowAndHighAtFirst(Check check) {
        for (int all = 2; all <= 20; all++) {
            int[] values = new int[all];
            for (int i = 0; i < all; i++) {
                values[i] = 1;
            }
            values[all - 1] = 9;
            check.due("the last alone of " + all, versions(values).broke(0), all - 1);
            // the first look is at the middle of 0 and all; below it all are good
            values[all / 2 - 1] = 9;
            check.due("the middle and the last of " + all, versions(values).broke(0), all / 2 - 1);
        }
    }

    private static void asLongAs(Check check) {
        LineFinder one = brokenBy(0, 1);
        check.due("low 0, high 1", one.broke(0), 0);
        check.due("no look", one.looks(0), 0);
        LineFinder two = brokenBy(1, 2);
        check.due("low 0, high 2: 1 is good", two.broke(0), 1);
        check.due("one look", two.looks(0), 1);
        LineFinder first = brokenBy(0, 2);
        check.due("low 0, high 2: 1 is bad", first.broke(0), 0);
        check.due("one look", first.looks(0), 1);
    }

    private static void middleIsCut(Check check) {
        // of 0 and 3 the middle is 1: bad from there on, it is the only look
        LineFinder low = brokenBy(0, 3);
        check.due("bad from 1 on", low.broke(0), 0);
        check.due("looks", low.looks(0), 1);
        LineFinder high = brokenBy(2, 3);
        check.due("bad at 3 alone", high.broke(0), 2);
        check.due("looks", high.looks(0), 2);
        // 0 5: 2 bad, 0 2: 1 bad
        LineFinder five = brokenBy(0, 5);
        check.due("bad from 1 of 5 on", five.broke(0), 0);
        check.due("looks", five.looks(0), 2);
        // 0 5: 2 good, 2 5: 3 good, 3 5: 4 good
        LineFinder last = brokenBy(4, 5);
        check.due("bad at 5 alone", last.broke(0), 4);
        check.due("looks", last.looks(0), 3);
    }

    private static void ofTwenty(Check check) {
        for (int bad = 0; bad < 20; bad++) {
            check.due("change " + bad + " of 20", brokenBy(bad, 20).broke(0), bad);
        }
    }

    private static void highIsTheVersion(Check check) {
        // all ways in which versions 1 to 5 may go to and fro; version 6 is bad
        for (int bad = 0; bad < 32; bad++) {
            int[] values = new int[6];
            for (int i = 0; i < 5; i++) {
                values[i] = (bad >> i & 1) != 0 ? 9 : 1;
            }
            values[5] = 9;
            LineFinder x = versions(values);
            int change = x.broke(0);
            check.due("ahead of change " + change + ", way " + bad, x.passesIn(change, 0), 1);
            check.due("behind change " + change + ", way " + bad, x.passesIn(change + 1, 0), 0);
        }
    }

    private static void howManyLooks(Check check) {
        int[] looks = {4, 4, 4, 5, 5, 4, 4, 4, 5, 5, 4, 4, 4, 5, 5, 4, 4, 4, 5, 5};
        for (int bad = 0; bad < 20; bad++) {
            LineFinder x = brokenBy(bad, 20);
            check.due("looks for change " + bad + " of 20", x.looks(0), looks[bad]);
            check.due("and again", x.looks(0), looks[bad]);
        }
    }

    private static void toAndFro(Check check) {
        // versions 1 .. 6; 0 6: 3 bad; 0 3: 1 bad
        LineFinder x = versions(9, 1, 9, 1, 1, 9);
        check.due("the change", x.broke(0), 0);
        check.due("looks", x.looks(0), 2);
        // 0 6: 3 good; 3 6: 4 bad
        LineFinder y = versions(9, 9, 1, 9, 1, 9);
        check.due("the other change", y.broke(0), 3);
        check.due("looks", y.looks(0), 2);
        // 0 4: 2 good; 2 4: 3 good: what was bad at 1 is not seen
        LineFinder z = versions(9, 1, 1, 9);
        check.due("the last change", z.broke(0), 3);
        check.due("looks", z.looks(0), 2);
    }

    /** Test 0 fails and meets all six lines, each a set of its own; below 0, line 2 leads away. */
    private static LineFinder sixSets() {
        LineFinder x = Rows.program(Rows.number(1, 1), Rows.input(0, 0), Rows.below(0, 7, 24), Rows.number(1, 2),
            Rows.number(1, 3), Rows.number(1, 4));
        Rows.exam(x, 0, 1);
        return x;
    }

    private static int openExam(LineFinder x, int first, int second) {
        int t = Rows.exam2(x, first, second);
        x.open(t, true);
        return t;
    }

    private static void openOnesAlone(Check check) {
        LineFinder x = sixSets();
        check.due("none is open", x.parting(), -9);
        int closed = Rows.exam(x, -1, 7);
        check.due("none is open still", x.parting(), -9);
        x.open(closed, true);
        check.due("it is open", x.parting(), closed);
        int wide = openExam(x, 0, 0);
        check.due("half of six is best", x.parting(), closed);
        x.open(closed, false);
        x.wants(closed, 1);
        check.due("now the other one alone", x.parting(), wide);
        x.open(wide, false);
        check.due("none again", x.parting(), -9);
        LineFinder passing = Rows.twoWays();
        openExam(passing, 0, 0);
        Rows.exam(passing, 0, 5);
        check.due("open, but no set", passing.parting(), -9);
        passing.open(1, true);
        check.due("two open, but no set", passing.parting(), -9);
    }

    private static void meetsALineOf(Check check) {
        LineFinder x = Rows.fourWays();
        Rows.exam2(x, 0, 0, 1);
        Rows.exam2(x, -1, 0, 1);
        check.due("{0} {1} {2} {3 6} {4 6} {3 7} {4 7}", x.suspects(), 7);
        int three = openExam(x, 0, -1);
        int six = openExam(x, -1, -1);
        // neither meets both lines of a pair; by 8^5: {0} {1} {2} 128 each, {3 6} {3 7} 1152, {4 6} {4 7} 32:
        // by 3 2688 of 2752 are met, by 6 1568
        x.prior(3, 9);
        check.due("one line of a set is enough", x.parting(), six);
        x.prior(3, 2);
        x.prior(6, 9);
        check.due("and so it is the other way", x.parting(), three);
    }

    /** Test 0 fails and meets all eight lines; input 0 below 0 passes over 3, input 1 below 0 over 5, 6, 7. */
    private static LineFinder eightSets() {
        LineFinder x = Rows.program(Rows.input(0, 0), Rows.input(1, 1), Rows.below(0, 7, 4), Rows.number(2, 1),
            Rows.below(1, 7, 24), Rows.number(3, 1), Rows.number(3, 2), Rows.number(3, 3));
        Rows.exam(x, 0, 1);
        return x;
    }

    private static void nearestToAHalf(Check check) {
        LineFinder x = eightSets();
        int eight = openExam(x, 0, 0);
        check.due("8 of 8", x.parting(), eight);
        int seven = openExam(x, -1, 0);
        check.due("7 of 8", x.parting(), seven);
        int five = openExam(x, 0, -1);
        check.due("5 of 8", x.parting(), five);
        int four = openExam(x, -1, -1);
        check.due("4 of 8", x.parting(), four);
        for (int line = 5; line <= 7; line++) {
            x.prior(line, 5);
        }
        // by 8^4: lines 0 to 4 250 each, 5 to 7 1000 each; of 4250 are met 4250, 4000, 1250, 1000
        check.due("1250 of 4250: what is below a half differs by its amount", x.parting(), five);
        for (int line = 5; line <= 7; line++) {
            x.prior(line, 3);
        }
        // by 49 times 8^4: lines 0 to 4 14 each, 5 to 7 24 each; of 142 are met 142, 128, 70, 56
        check.due("70 of 142", x.parting(), five);
        x.open(five, false);
        // five passes now and does not meet 5 to 7, which are doubled: of 214 are met 214, 200, 56
        check.due("56 of 214", x.parting(), four);
    }

    private static void greatOdds(Check check) {
        LineFinder x = Rows.program(Rows.input(0, 0), Rows.input(1, 1), Rows.below(0, 7, 6), Rows.number(2, 1),
            Rows.number(2, 2), Rows.number(2, 3), Rows.below(1, 7, 24));
        for (int line = 7; line < 14; line++) {
            Rows.tell(x, Rows.number(3, line));
        }
        Rows.exam(x, 0, 1);
        openExam(x, 0, 0);
        openExam(x, -1, 0);
        openExam(x, -1, -1);
        int best = openExam(x, 0, -1);
        // lines 0 to 11 2 times 8^11 each, 12 and 13 four times that: of 20 are met 20, 17, 4, 7
        check.due("odds beyond an int", x.odds(0), 1L << 34);
        check.due("odds of line 13", x.odds(13), 1L << 36);
        check.due("7 of 20", x.parting(), best);
    }

    /** Test 0 fails and meets all seven lines; input 0 below 0 does two of them, else input 1 below 0 five. */
    private static LineFinder sevenSets() {
        LineFinder x = Rows.program(Rows.input(0, 0), Rows.below(0, 7, 24), Rows.number(2, 1), Rows.input(1, 1),
            Rows.below(1, 7, 24), Rows.number(2, 2), Rows.number(2, 3));
        Rows.exam(x, 0, 1);
        return x;
    }

    private static void ofSeveralTheLeast(Check check) {
        LineFinder x = sevenSets();
        int all = openExam(x, 0, 0);
        int two = openExam(x, -1, 0);
        openExam(x, 0, -1);
        openExam(x, -1, -1);
        check.due("2 of 7 and 5 of 7 differ alike", x.parting(), two);
        x.open(two, false);
        check.due("another is judged: it passes", x.count(3), 1);
        LineFinder y = sevenSets();
        int five = openExam(y, 0, -1);
        openExam(y, -1, 0);
        check.due("5 of 7 and 2 of 7 differ alike", y.parting(), five);
        LineFinder z = sevenSets();
        for (int t = 1; t < 12; t++) {
            check.due("open test", openExam(z, 0, 0), t);
        }
        check.due("eleven of the same", z.parting(), all);
        z.open(1, false);
        check.due("ten of the same", z.parting(), 2);
    }

    private static void openIsNeither(Check check) {
        LineFinder x = Rows.twoWays();
        Rows.exam(x, -1);
        Rows.exam(x, 0);
        Rows.exam(x, 0, 5);
        check.due("failing", x.count(2), 2);
        check.due("passing", x.count(3), 1);
        x.open(1, true);
        check.due("failing, one open", x.count(2), 1);
        check.due("score of line 4 below", x.score(4, 0, 1), 1);
        check.due("sets of the one that fails", x.suspects(), 4);
        check.due("odds of {4}, which the passing one does not meet", x.odds(2), 131072);
        x.open(2, true);
        check.due("passing, one open", x.count(3), 0);
        check.due("open", x.count(4), 2);
        check.due("odds of {4} without it", x.odds(2), 65536);
        check.due("open, it passes as promise 6 says", x.passes(2), 1);
        check.due("open, it fails as promise 6 says", x.passes(1), 0);
        x.open(0, true);
        check.due("no failing one", x.count(2), 0);
        check.due("no set", x.suspects(), 0);
        check.due("scores of nobody", x.score(0, 0, 0), 0);
        x.open(0, false);
        x.open(1, false);
        x.open(2, false);
        check.due("failing as before", x.count(2), 2);
        check.due("passing as before", x.count(3), 1);
        LineFinder cut = Rows.program(Rows.go(0));
        Rows.exam(cut, 0);
        cut.open(0, true);
        check.due("cut and open fails not", cut.count(2), 0);
        check.due("but is a cut run of all tests", cut.count(6), 1);
    }
}
