/** Part III of the document: slices, turned IFs and set lines at their edges. */
public final class EdgesOfCausesTest {
    public static void main(String[] args) {
        Sentences s = new Sentences("EdgesOfCausesTest");
        all(s);
        s.end();
    }

    static void all(Sentences s) {
        s.holds("the VARIABLES that it reads (1 to 3: y, z; 5: x, y; 7: x)", EdgesOfCausesTest::whatIsRead);
        s.holds("the VARIABLES that it reads (1 to 3: y, z; 5: x, y; 7: x)", "no others", EdgesOfCausesTest::whatIsNotRead);
        s.holds("the STEPS that wrote last (ahead of it)", EdgesOfCausesTest::wroteLast);
        s.holds("the STEPS that wrote last (ahead of it)", "nobody wrote", EdgesOfCausesTest::nobodyWrote);
        s.holds("and the latest STEP ahead of it that was an IF", EdgesOfCausesTest::latestIf);
        s.holds("SLICE of the i-th number put OUT: the LINES of all STEPS on which its STEP hangs, or those hang, "
            + "and so on, its own too", EdgesOfCausesTest::slices);
        s.holds("TURNING the k-th IF (from 0 on) of a RUN", EdgesOfCausesTest::ifsFrom0On);
        s.holds("the RUN is done with just that one decided the other way", EdgesOfCausesTest::justThatOne);
        s.holds("MENDS: the TEST would PASS then", EdgesOfCausesTest::wouldPassThen);
        s.holds("SETTING a LINE of OPS 0 to 4 to v", EdgesOfCausesTest::opsThatAreSet);
        s.holds("whenever it is done in the RUN its VARIABLE becomes v", EdgesOfCausesTest::wheneverItIsDone);
        s.holds("LINE CAN MEND a TEST if it would PASS", EdgesOfCausesTest::canMend);
        s.holds("with some v of -20 .. 20", EdgesOfCausesTest::valuesTo20);
        s.holds("(the least amount first, of two the one below 0)", EdgesOfCausesTest::leastAmountFirst);
    }

    private static void whatIsRead(Check check) {
        for (int op = 1; op <= 3; op++) {
            int[] sum = {op, 2, 0, 1};
            LineFinder both = Rows.program(Rows.number(0, 1), Rows.number(1, 2), sum, Rows.out(2));
            both.test(0, 0, 0, 0);
            check.due("y and z of OP " + op, both.slice(0, 0), Rows.bits(0, 1, 2, 3));
            LineFinder y = Rows.program(Rows.number(0, 1), sum, Rows.out(2));
            y.test(0, 0, 0, 0);
            check.due("y of OP " + op, y.slice(0, 0), Rows.bits(0, 1, 2));
            LineFinder z = Rows.program(Rows.number(1, 1), sum, Rows.out(2));
            z.test(0, 0, 0, 0);
            check.due("z of OP " + op, z.slice(0, 0), Rows.bits(0, 1, 2));
        }
        LineFinder ifX = Rows.program(Rows.number(6, 1), Rows.below(6, 7, 2), Rows.out(0));
        ifX.test(0, 0, 0, 0);
        check.due("x of an IF", ifX.slice(0, 0), Rows.bits(0, 1, 2));
        LineFinder ifY = Rows.program(Rows.number(7, 1), Rows.below(6, 7, 2), Rows.out(0));
        ifY.test(0, 0, 0, 0);
        check.due("y of an IF", ifY.slice(0, 0), Rows.bits(0, 1, 2));
        LineFinder outX = Rows.program(Rows.number(7, 1), Rows.out(7));
        outX.test(0, 0, 0, 0);
        check.due("x of OP 7", outX.slice(0, 0), Rows.bits(0, 1));
    }

    private static void whatIsNotRead(Check check) {
        for (int op = 0; op <= 4; op++) {
            // line 0 writes variable 2, which line 1 only writes over
            LineFinder x = Rows.program(Rows.number(2, 1), new int[] {op, 2, 0, 0}, Rows.out(2));
            x.test(0, 0, 0, 0);
            check.due("x of OP " + op, x.slice(0, 0), Rows.bits(1, 2));
        }
        for (int op = 0; op <= 4; op += 4) {
            LineFinder x = Rows.program(Rows.number(1, 1), Rows.number(3, 1), new int[] {op, 2, 1, 3}, Rows.out(2));
            x.test(0, 0, 0, 0);
            check.due("y and z of OP " + op, x.slice(0, 0), Rows.bits(2, 3));
        }
        LineFinder ifZ = Rows.program(Rows.number(3, 1), Rows.number(5, 1), Rows.below(0, 1, 3), Rows.out(2));
        ifZ.test(0, 0, 0, 0);
        check.due("z of an IF", ifZ.slice(0, 0), Rows.bits(2, 3));
        LineFinder goes = Rows.program(Rows.number(0, 1), Rows.number(2, 1), new int[] {6, 0, 0, 3}, Rows.out(1));
        goes.test(0, 0, 0, 0);
        check.due("nobody hangs on OP 6", goes.slice(0, 0), Rows.bits(3));
        LineFinder outs = Rows.program(Rows.number(2, 1), Rows.number(3, 1), new int[] {7, 1, 2, 3});
        outs.test(0, 0, 0, 0);
        check.due("y and z of OP 7", outs.slice(0, 0), Rows.bits(2));
        LineFinder twice = Rows.program(Rows.out(0), Rows.out(0));
        twice.test(0, 0, 0, 0);
        check.due("nobody hangs on OP 7", twice.slice(0, 1), Rows.bits(1));
    }

    private static void wroteLast(Check check) {
        LineFinder over = Rows.program(Rows.number(0, 1), Rows.number(0, 2), Rows.out(0));
        over.test(0, 0, 0, 0);
        check.due("written over", over.slice(0, 0), Rows.bits(1, 2));
        LineFinder itself = Rows.program(Rows.number(0, 1), Rows.plus(0, 0, 0), Rows.out(0));
        itself.test(0, 0, 0, 0);
        check.due("a step reads what was written ahead of it", itself.slice(0, 0), Rows.bits(0, 1, 2));
        LineFinder loop = Rows.program(Rows.out(0), Rows.number(0, 1), Rows.go(0));
        loop.test(0, 0, 0, 0);
        check.due("the first time nobody wrote ahead", loop.slice(0, 0), Rows.bits(0));
        check.due("the second time line 1 did", loop.slice(0, 1), Rows.bits(0, 1));
        check.due("and the sixth time", loop.slice(0, 5), Rows.bits(0, 1));
        LineFinder later = Rows.program(Rows.number(0, 1), Rows.plus(1, 0, 0), Rows.number(0, 2), Rows.out(1));
        later.test(0, 0, 0, 0);
        check.due("a write behind the read", later.slice(0, 0), Rows.bits(0, 1, 3));
    }

    private static void nobodyWrote(Check check) {
        for (int v = 0; v <= 7; v++) {
            LineFinder x = Rows.program(Rows.out(v), Rows.number(v, 1), Rows.out(v));
            x.test(0, 0, 0, 0);
            x.test(0, 0, 0, 0);
            check.due("variable " + v, x.slice(0, 0), Rows.bits(0));
            check.due("written then", x.slice(0, 1), Rows.bits(1, 2));
            check.due("variable " + v + " again", x.slice(0, 0), Rows.bits(0));
            check.due("and of another test", x.slice(1, 0), Rows.bits(0));
        }
        LineFinder sum = Rows.program(Rows.plus(0, 1, 2), Rows.below(3, 4, 2), Rows.out(0));
        sum.test(0, 0, 0, 0);
        check.due("a sum and an IF of what nobody wrote", sum.slice(0, 0), Rows.bits(0, 1, 2));
    }

    private static void latestIf(Check check) {
        LineFinder x = Rows.program(Rows.out(0), Rows.below(0, 0, 24), Rows.out(0), Rows.number(1, 1),
            Rows.below(0, 1, 5), Rows.out(0), Rows.below(0, 1, 7), Rows.number(2, 1));
        x.test(0, 0, 0, 0);
        check.due("no IF ahead", x.slice(0, 0), Rows.bits(0));
        check.due("one that does not go", x.slice(0, 1), Rows.bits(1, 2));
        check.due("one that goes, and those that it hangs on", x.slice(0, 2), Rows.bits(1, 3, 4, 5));
        // the second OUT hangs on the latest IF, that on the one ahead of it, that on what it read then
        LineFinder chain = Rows.program(Rows.number(0, 1), Rows.below(0, 7, 24), Rows.number(0, 2),
            Rows.below(6, 7, 24), Rows.out(5));
        chain.test(0, 0, 0, 0);
        check.due("an IF hangs on the IF ahead of it", chain.slice(0, 0), Rows.bits(0, 1, 3, 4));
        LineFinder first = Rows.program(Rows.below(0, 0, 24), Rows.out(0));
        first.test(0, 0, 0, 0);
        check.due("step 0 is an IF", first.slice(0, 0), Rows.bits(0, 1));
        LineFinder write = Rows.program(Rows.below(0, 0, 24), Rows.number(0, 1), Rows.out(0), Rows.below(1, 1, 24));
        write.test(0, 0, 0, 0);
        check.due("an IF behind is none", write.slice(0, 0), Rows.bits(0, 1, 2));
    }

    private static void slices(Check check) {
        LineFinder x = new LineFinder();
        for (int i = 0; i < 6; i++) {
            Rows.tell(x, Rows.plus(i, Math.max(0, i - 1), 7));
            Rows.tell(x, Rows.out(i));
        }
        x.test(0, 0, 0, 0);
        int writes = 0;
        for (int i = 0; i < 6; i++) {
            writes |= 1 << 2 * i;
            check.due("number " + i + " hangs on all sums ahead", x.slice(0, i), writes | 1 << 2 * i + 1);
        }
        check.due("no number 6", x.slice(0, 6), -1);
        check.due("no number -1", x.slice(0, -1), -1);
        LineFinder full = new LineFinder();
        for (int i = 0; i < 23; i++) {
            Rows.tell(full, Rows.plus(0, 0, 0));
        }
        Rows.tell(full, Rows.out(0));
        full.test(0, 0, 0, 0);
        check.due("all 24 lines", full.slice(0, 0), (1 << 24) - 1);
        // 2 steps, 296 of the loop, line 4, and the 300th puts out
        LineFinder cut = Rows.program(Rows.number(1, 1), Rows.input(0, 0), Rows.minus(0, 0, 1), Rows.below(7, 0, 2),
            Rows.number(2, 1), Rows.out(0), Rows.out(0));
        cut.test(148, 0, 0, 0);
        check.due("by the 300th step", cut.slice(0, 0), Rows.bits(0, 1, 2, 3, 5));
        check.due("what was cut is not there", cut.slice(0, 1), -1);
    }

    /** Two IFs that do not go: 1 and 2 come out, without the first if the first IF is turned, and so on. */
    private static LineFinder twoIfs() {
        return Rows.program(Rows.number(1, 1), Rows.number(2, 2), Rows.below(0, 0, 4), Rows.out(1),
            Rows.below(0, 0, 6), Rows.out(2));
    }

    private static void ifsFrom0On(Check check) {
        LineFinder x = twoIfs();
        Rows.exam(x, 0, 2);
        Rows.exam(x, 0, 1);
        check.due("IFs", x.ifs(0), 2);
        check.due("IF 0 for the first", x.turn(0, 0), 1);
        check.due("IF 1 for the first", x.turn(0, 1), 0);
        check.due("IF 0 for the second", x.turn(1, 0), 0);
        check.due("IF 1 for the second", x.turn(1, 1), 1);
        check.due("no IF 2", x.turn(0, 2), -1);
        check.due("no IF -1", x.turn(0, -1), -1);
        check.due("least of the first", x.turnFor(0), 0);
        check.due("least of the second", x.turnFor(1), 1);
        LineFinder loop = Rows.program(Rows.number(1, 1), Rows.below(0, 1, 1));
        loop.test(0, 0, 0, 0);
        check.due("IFs of 300 steps", loop.ifs(0), 299);
        check.due("the last, step 300", loop.turn(0, 298), 1);
        check.due("none behind it", loop.turn(0, 299), -1);
        LineFinder more = Rows.program(Rows.below(0, 0, 2), Rows.go(24), Rows.below(0, 0, 24));
        more.test(0, 0, 0, 0);
        check.due("IFs of the run", more.ifs(0), 1);
        check.due("an IF of the turned run alone", more.turn(0, 1), -1);
    }

    private static void justThatOne(Check check) {
        LineFinder x = twoIfs();
        Rows.exam(x, 0);
        check.due("not both: IF 0", x.turn(0, 0), 0);
        check.due("not both: IF 1", x.turn(0, 1), 0);
        check.due("none mends", x.turnFor(0), -9);
        check.due("the run itself is as it was", x.outs(0), 2);
        // one line of an IF, done three times: 2, 1, 0 come out
        LineFinder outs = Rows.program(Rows.input(0, 0), Rows.number(1, 1), Rows.minus(0, 0, 1), Rows.out(0),
            Rows.below(7, 0, 2));
        Rows.exam(outs, 3, 2);
        Rows.exam(outs, 3, 2, 1);
        Rows.exam(outs, 3, 2, 1, 0, -1);
        int[][] turned = {{1, 0, 0}, {0, 1, 0}, {0, 0, 1}};
        for (int t = 0; t < 3; t++) {
            for (int k = 0; k < 3; k++) {
                check.due("test " + t + ", IF " + k, outs.turn(t, k), turned[t][k]);
            }
        }
        LineFinder goes = Rows.program(Rows.number(1, 1), Rows.below(0, 1, 3), Rows.out(1));
        Rows.exam(goes, 0, 1);
        check.due("one that goes stays", goes.turn(0, 0), 1);
    }

    private static void wouldPassThen(Check check) {
        // turned, 0 comes out as it should, but the run is cut
        LineFinder cut = Rows.program(Rows.below(0, 0, 2), Rows.go(24), Rows.out(0), Rows.go(3));
        Rows.exam(cut, 0, 0);
        check.due("its row, but cut", cut.turn(0, 0), 0);
        check.due("none mends", cut.turnFor(0), -9);
        Rows.change(cut, 3, Rows.go(24));
        check.due("its row, not cut", cut.turn(0, 0), 1);
        check.due("it mends", cut.turnFor(0), 0);
        LineFinder same = Rows.program(Rows.below(0, 0, 1), Rows.out(0));
        Rows.exam(same, 0, 0);
        check.due("a test that passes, and would", same.turn(0, 0), 1);
        Rows.change(same, 0, Rows.below(0, 0, 2));
        check.due("a test that passes, and would not", same.turn(0, 0), 0);
        LineFinder no = Rows.program(Rows.out(0));
        Rows.exam(no, 0);
        check.due("no IF mends", no.turnFor(0), -9);
    }

    private static void opsThatAreSet(Check check) {
        for (int op = 0; op <= 7; op++) {
            LineFinder x = Rows.program(new int[] {op, 2, 1, 1}, Rows.out(2));
            Rows.exam(x, 0, 9);
            boolean isSet = op <= 4;
            check.due("a line of OP " + op, x.mends(0, 0), isSet ? 1 : -3);
            if (isSet) {
                check.due("by 9", x.mendBy(0, 0), 9);
            } else {
                check.dueThrow("mendBy of OP " + op, () -> x.mendBy(0, 0));
            }
        }
    }

    private static void wheneverItIsDone(Check check) {
        LineFinder x = Rows.program(Rows.number(1, 1), Rows.plus(0, 0, 1), Rows.out(0), Rows.go(1));
        Rows.exam(x, 0, 4, 4, 4, 4, 4, 4);
        Rows.exam(x, 0, 4, 5, 6, 7, 8, 9);
        check.due("each time", x.mendBy(0, 1), 4);
        check.due("not the first time alone", x.mends(1, 1), 0);
        LineFinder unmet = Rows.program(Rows.go(2), Rows.number(0, 1), Rows.out(0));
        Rows.exam(unmet, 0, 5);
        check.due("a line that is not done", unmet.mends(0, 1), 0);
        LineFinder read = Rows.program(Rows.number(0, 1), Rows.plus(0, 0, 0), Rows.out(0));
        Rows.exam(read, 0, 6);
        check.due("what it read counts nothing", read.mendBy(0, 1), 6);
        check.due("what reads it goes on", read.mendBy(0, 0), 3);
        check.due("the run itself is as it was", read.out(0, 0), 2);
    }

    private static void canMend(Check check) {
        // below 0 a 0 comes out as it should, but the run is cut; else 9 does
        LineFinder cut = Rows.program(Rows.number(0, 1), Rows.number(6, 9), Rows.below(0, 7, 5), Rows.out(6),
            Rows.go(24), Rows.out(7), Rows.go(6));
        Rows.exam(cut, 0, 0);
        check.due("its row, but cut", cut.mends(0, 0), 0);
        check.dueThrow("no value", () -> cut.mendBy(0, 0));
        check.due("another line", cut.mendBy(0, 1), 0);
        Rows.change(cut, 6, Rows.go(24));
        check.due("its row, not cut", cut.mendBy(0, 0), -1);
        LineFinder late = Rows.program(Rows.number(0, 1), Rows.below(7, 0, 1), Rows.out(0));
        Rows.exam(late, 0, 0);
        check.due("a cut run", late.passes(0), 0);
        check.due("is mended too", late.mendBy(0, 0), 0);
        LineFinder six = Rows.program(Rows.input(0, 0), Rows.out(0), Rows.go(1));
        Rows.exam(six, 7, 2, 2, 2, 2, 2, 2);
        Rows.exam(six, 7, 2, 2, 2, 2, 2);
        check.due("six numbers", six.mendBy(0, 0), 2);
        check.due("not five", six.mends(1, 0), 0);
    }

    private static void valuesTo20(Check check) {
        LineFinder x = Rows.program(Rows.input(0, 0), Rows.out(0));
        int[] wanted = {19, 20, 21, -19, -20, -21, Rows.MOST, Rows.LEAST};
        for (int t = 0; t < wanted.length; t++) {
            Rows.exam(x, 100, wanted[t]);
            boolean isIn = Math.abs((long) wanted[t]) <= 20;
            check.due("mends by " + wanted[t], x.mends(t, 0), isIn ? 1 : 0);
            int test = t;
            if (isIn) {
                check.due("mendBy " + wanted[t], x.mendBy(t, 0), wanted[t]);
            } else {
                check.dueThrow("mendBy " + wanted[t], () -> x.mendBy(test, 0));
            }
        }
    }

    private static void leastAmountFirst(Check check) {
        LineFinder square = Rows.program(Rows.input(0, 0), Rows.times(1, 0, 0), Rows.out(1));
        int[] squares = {0, 1, 9, 361, 400, 441};
        int[] roots = {0, -1, -3, -19, -20};
        for (int t = 0; t < squares.length; t++) {
            Rows.exam(square, 50, squares[t]);
        }
        for (int t = 0; t < roots.length; t++) {
            check.due("the square is " + squares[t], square.mendBy(t, 0), roots[t]);
        }
        check.due("the square is 441", square.mends(5, 0), 0);
        // what is not below 5, or not above -5, or either, puts nothing out
        LineFinder high = Rows.program(Rows.input(0, 0), Rows.number(1, 4), Rows.below(1, 0, 4), Rows.out(7));
        Rows.exam(high, 0);
        check.due("5 .. 20", high.mendBy(0, 0), 5);
        LineFinder low = Rows.program(Rows.input(0, 0), Rows.number(1, -4), Rows.below(0, 1, 4), Rows.out(7));
        Rows.exam(low, 0);
        check.due("-20 .. -5", low.mendBy(0, 0), -5);
        LineFinder either = Rows.program(Rows.input(0, 0), Rows.times(2, 0, 0), Rows.number(1, 24),
            Rows.below(1, 2, 5), Rows.out(7));
        Rows.exam(either, 0);
        check.due("-20 .. -5 and 5 .. 20", either.mendBy(0, 0), -5);
        LineFinder round = Rows.program(Rows.input(0, 0), Rows.number(1, 5), Rows.below(0, 1, 4), Rows.out(7));
        Rows.exam(round, 9);
        check.due("-20 .. 4", round.mendBy(0, 0), 0);
        LineFinder near = Rows.program(Rows.input(0, 0), Rows.number(1, 2), Rows.below(1, 0, 6), Rows.number(1, -3),
            Rows.below(0, 1, 6), Rows.out(7));
        Rows.exam(near, 0);
        check.due("3 .. 20 and -20 .. -4", near.mendBy(0, 0), 3);
    }
}
