/** Promises 1 to 11: lines, tests and their runs. */
public final class ProgramTest {
    private static final int LEAST = Integer.MIN_VALUE;
    private static final int MOST = Integer.MAX_VALUE;

    public static void main(String[] args) {
        Check check = new Check("ProgramTest");
        promise1(check);
        promise2(check);
        promise2Order(check);
        promise3And4(check);
        promise5(check);
        opsOfARun(check);
        endsOfARun(check);
        promises6To11Refuse(check);
        throwsAreNotCounted(check);
        check.end();
    }

    private static void promise1(Check check) {
        LineFinder x = new LineFinder();
        for (int what = 0; what <= 6; what++) {
            check.due("count(" + what + ") of a new object", x.count(what), 0);
        }
        check.dueRefusals("of a new object", x, 0, 0, 0, 0, 0, 0);
        check.due("test of a new object", x.test(1, 2, 3, 4), 0);
        check.due("an empty program passes an empty row", x.passes(0), 1);
        check.due("steps of an empty program", x.steps(0), 0);
        check.due("a second object is its own", new LineFinder().count(1), 0);
    }

    private static void promise2(Check check) {
        LineFinder x = new LineFinder();
        int[][] nobody = {
            {-1, 0, 0, 0}, {8, 0, 0, 0}, {LEAST, 0, 0, 0}, {MOST, 0, 0, 0},
            {0, -1, 0, 0}, {0, 8, 0, 0}, {0, 8, 1001, 0}, {0, -1, -1001, 0},
            {1, 8, 0, 0}, {1, 0, 8, 0}, {1, 0, 0, 8}, {1, -1, 0, 0}, {1, 0, -1, 0}, {1, 0, 0, -1},
            {2, 8, 0, 0}, {2, 0, 8, 0}, {2, 0, 0, 8}, {3, 8, 0, 0}, {3, 0, 8, 0}, {3, 0, 0, 8},
            {4, 8, 0, 0}, {4, -1, 0, 0}, {4, 0, 4, 0}, {4, 0, -1, 0},
            {5, 8, 0, 0}, {5, 0, 8, 0}, {5, -1, 0, 0}, {5, 0, -1, 0}, {5, 0, 0, 25}, {5, 0, 0, -1},
            {6, 0, 0, 25}, {6, 0, 0, -1}, {7, 8, 0, 0}, {7, -1, 0, 0},
        };
        for (int[] r : nobody) {
            check.due("line(" + r[0] + ", " + r[1] + ", " + r[2] + ", " + r[3] + ")", x.line(r[0], r[1], r[2], r[3]), -1);
        }
        check.due("number below", x.line(0, 0, -1001, 0), -4);
        check.due("number far below", x.line(0, 0, LEAST, 0), -4);
        check.due("number above", x.line(0, 0, 1001, 0), -6);
        check.due("number far above", x.line(0, 0, MOST, 0), -6);
        check.due("nothing was told", x.count(0), 0);
        int[][] fine = {
            {0, 7, 1000, 99}, {0, 0, -1000, -99}, {1, 7, 7, 7}, {2, 0, 7, 0}, {3, 7, 0, 7}, {4, 7, 3, MOST},
            {5, 7, 7, 24}, {5, 0, 0, 0}, {6, 99, -99, 24}, {6, LEAST, MOST, 0}, {7, 7, -5, 88},
        };
        for (int i = 0; i < fine.length; i++) {
            check.due("fine line " + i, x.line(fine[i][0], fine[i][1], fine[i][2], fine[i][3]), i);
        }
        check.dueRefusals("behind lines", x, nobody.length, 0, 0, 2, 0, 2);
    }

    private static void promise2Order(Check check) {
        LineFinder x = new LineFinder();
        for (int i = 0; i < 24; i++) {
            check.due("line " + i, x.line(7, 0, 0, 0), i);
        }
        check.due("the 25th line", x.line(7, 0, 0, 0), -6);
        check.due("nobody ahead of room", x.line(8, 0, 0, 0), -1);
        check.due("below ahead of room", x.line(0, 0, -1001, 0), -4);
        check.due("a change", x.change(0, 7, 1, 0, 0), 0);
        check.due("state ahead of room", x.line(7, 0, 0, 0), -3);
        check.due("nobody ahead of state", x.line(7, 8, 0, 0), -1);
        check.due("below ahead of state", x.line(0, 0, -1001, 0), -4);
        check.due("above ahead of state", x.line(0, 0, 1001, 0), -6);
        check.due("still 24 lines", x.count(0), 24);
        check.dueRefusals("behind the order", x, 2, 0, 1, 2, 0, 2);
    }

    private static void promise3And4(Check check) {
        LineFinder x = new LineFinder();
        check.due("wants without a test", x.wants(0, 1), -1);
        for (int i = 0; i < 12; i++) {
            check.due("test " + i, x.test(i, LEAST, MOST, -i), i);
        }
        check.due("the 13th test", x.test(0, 0, 0, 0), -6);
        check.due("tests", x.count(1), 12);
        check.due("wants(-1)", x.wants(-1, 1), -1);
        check.due("wants(12)", x.wants(12, 1), -1);
        for (int i = 1; i <= 6; i++) {
            check.due("wanted number " + i, x.wants(11, LEAST), i);
        }
        check.due("the 7th wanted number", x.wants(11, 0), -6);
        check.due("another test's row is its own", x.wants(10, MOST), 1);
        check.dueRefusals("behind tests", x, 3, 0, 0, 0, 0, 2);
    }

    private static void promise5(Check check) {
        LineFinder x = new LineFinder();
        check.due("open without a test", x.open(0, true), -1);
        x.test(0, 0, 0, 0);
        check.due("not open at first", x.open(0, false), 0);
        check.due("open", x.open(0, true), 1);
        check.due("open again", x.open(0, true), 0);
        check.due("an open test passes too", x.passes(0), 1);
        check.due("but is no passing one", x.count(3), 0);
        check.due("closed", x.open(0, false), 1);
        check.due("closed again", x.open(0, false), 0);
        check.due("open(-1)", x.open(-1, false), -1);
        check.due("open(1)", x.open(1, true), -1);
        check.dueRefusals("behind open", x, 3, 0, 0, 0, 0, 0);
    }

    private static void opsOfARun(Check check) {
        LineFinder x = new LineFinder();
        x.line(4, 0, 0, 0);   // v0 = input 0
        x.line(4, 1, 3, 0);   // v1 = input 3
        x.line(1, 2, 0, 1);   // v2 = v0 + v1
        x.line(2, 3, 0, 1);   // v3 = v0 - v1
        x.line(3, 4, 0, 1);   // v4 = v0 * v1
        x.line(0, 5, -7, 0);  // v5 = -7
        x.line(7, 2, 0, 0);
        x.line(7, 3, 0, 0);
        x.line(7, 4, 0, 0);
        x.line(7, 5, 0, 0);
        x.line(7, 6, 0, 0);   // never written: 0
        x.test(20, 1, 2, 3);
        int[] want = {23, 17, 60, -7, 0};
        check.due("outs", x.outs(0), 5);
        for (int i = 0; i < 5; i++) {
            check.due("passes with " + i + " wanted", x.passes(0), 0);
            check.due("out " + i, x.out(0, i), want[i]);
            x.wants(0, want[i]);
        }
        check.due("passes with its row", x.passes(0), 1);
        x.wants(0, 0);
        check.due("one number too many wanted", x.passes(0), 0);
        x.test(MOST, 9, 9, 2);
        check.due("plus goes round", x.out(1, 0), LEAST + 1);
        check.due("minus", x.out(1, 1), MOST - 2);
        check.due("times goes round", x.out(1, 2), -2);
        check.due("steps", x.steps(0), 11);
        check.due("step 0", x.step(0, 0), 0);
        check.due("step 10", x.step(0, 10), 10);
        check.due("step 11", x.step(0, 11), -9);
        check.due("step -1", x.step(0, -1), -9);
        check.due("step, far", x.step(0, MOST), -9);
        check.due("step, far below", x.step(0, LEAST), -9);
        check.due("met", x.met(0, 10), 1);
        check.dueRefusals("-9 is no refusal", x, 0, 0, 0, 0, 0, 0);
    }

    private static void endsOfARun(Check check) {
        LineFinder six = new LineFinder();
        six.line(7, 0, 0, 0);
        six.line(6, 0, 0, 0);
        six.test(0, 0, 0, 0);
        check.due("six numbers end a run", six.steps(0), 11);
        check.due("six numbers", six.outs(0), 6);
        check.due("line 0 six times", six.met(0, 0), 6);
        check.due("line 1 five times", six.met(0, 1), 5);
        check.due("no cut", six.count(6), 0);
        for (int i = 0; i < 6; i++) {
            six.wants(0, 0);
        }
        check.due("six numbers pass", six.passes(0), 1);

        LineFinder cut = new LineFinder();
        cut.line(6, 0, 0, 0);
        cut.test(0, 0, 0, 0);
        check.due("cut behind 300 steps", cut.steps(0), 300);
        check.due("step 299", cut.step(0, 299), 0);
        check.due("step 300", cut.step(0, 300), -9);
        check.due("a cut run fails, though its row is empty", cut.passes(0), 0);
        check.due("cut runs", cut.count(6), 1);
        check.due("met 300 times", cut.met(0, 0), 300);

        LineFinder past = new LineFinder();
        past.line(6, 0, 0, 24);
        past.line(7, 0, 0, 0);
        past.test(0, 0, 0, 0);
        check.due("a line that there is not ends a run", past.steps(0), 1);
        check.due("and it passes", past.passes(0), 1);
        check.due("unmet line", past.met(0, 1), 0);

        LineFinder later = new LineFinder();
        later.line(6, 0, 0, 1);
        later.test(0, 0, 0, 0);
        check.due("line 1 is not yet there", later.steps(0), 1);
        later.line(7, 0, 0, 0);
        check.due("line 1 is there now", later.steps(0), 2);
        check.due("the row no longer comes out", later.passes(0), 0);

        exactly300(check);
        ifGoesBelowAlone(check);
    }

    /** A loop of 2 steps 148 times behind 3 steps, and one that leaves it: a line more or less is the 300th step. */
    private static void exactly300(Check check) {
        LineFinder x = new LineFinder();
        x.line(4, 0, 0, 0);   // v0 = how often
        x.line(0, 1, 1, 0);   // v1 = 1
        x.line(2, 0, 0, 1);   // v0 = v0 - 1
        x.line(5, 7, 0, 2);   // as long as 0 < v0
        x.line(7, 0, 0, 0);
        x.test(148, 0, 0, 0);
        x.wants(0, 0);
        check.due("2 and 296 and 1 steps", x.steps(0), 299);
        check.due("passes", x.passes(0), 1);
        x.test(149, 0, 0, 0);
        check.due("300 steps, line 4 not done", x.steps(1), 300);
        check.due("cut ahead of line 4", x.passes(1), 0);
        check.due("outs of the cut run", x.outs(1), 0);
        check.due("one cut run", x.count(6), 1);
        x.line(6, 0, 0, 24);
        check.due("the 300th step leads to no line", x.steps(0), 300);
        check.due("which is an end, no cut", x.passes(0), 1);
        check.due("still one cut run", x.count(6), 1);
        x.change(4, 6, 0, 0, 5);
        x.change(5, 7, 0, 0, 0);
        check.due("the 300th step puts out", x.outs(0), 1);
        check.due("and ends behind it", x.passes(0), 1);
        check.due("one cut run as ever", x.count(6), 1);
    }

    private static void ifGoesBelowAlone(Check check) {
        LineFinder x = new LineFinder();
        x.line(4, 0, 0, 0);
        x.line(4, 1, 1, 0);
        x.line(5, 0, 1, 4);
        x.line(7, 0, 0, 0);
        x.test(1, 2, 0, 0);
        x.test(2, 2, 0, 0);
        x.test(3, 2, 0, 0);
        x.test(LEAST, MOST, 0, 0);
        check.due("below goes", x.outs(0), 0);
        check.due("the same does not go", x.outs(1), 1);
        check.due("above does not go", x.outs(2), 1);
        check.due("far below goes", x.outs(3), 0);
    }

    private static void promises6To11Refuse(Check check) {
        LineFinder x = new LineFinder();
        x.line(7, 0, 0, 0);
        x.test(0, 0, 0, 0);
        int[] none = {-1, 1, 12, LEAST, MOST};
        for (int t : none) {
            check.due("passes(" + t + ")", x.passes(t), -1);
            check.due("outs(" + t + ")", x.outs(t), -1);
            check.due("steps(" + t + ")", x.steps(t), -1);
            check.due("step(" + t + ", 0)", x.step(t, 0), -1);
            check.due("step(" + t + ", -1)", x.step(t, -1), -1);
            check.due("met(" + t + ", 0)", x.met(t, 0), -1);
            check.due("met(0, " + t + ")", x.met(0, t), -1);
        }
        check.due("met(0, 24)", x.met(0, 24), -1);
        check.dueRefusals("behind runs", x, 36, 0, 0, 0, 0, 0);
    }

    private static void throwsAreNotCounted(Check check) {
        LineFinder x = new LineFinder();
        x.line(7, 0, 0, 0);
        check.dueThrow("out without a test", () -> x.out(0, 0));
        x.test(0, 0, 0, 0);
        check.due("out", x.out(0, 0), 0);
        check.dueThrow("out(0, 1)", () -> x.out(0, 1));
        check.dueThrow("out(0, -1)", () -> x.out(0, -1));
        check.dueThrow("out(-1, 0)", () -> x.out(-1, 0));
        check.dueThrow("out(1, 0)", () -> x.out(1, 0));
        check.dueThrow("out(0, 6)", () -> x.out(0, 6));
        check.dueRefusals("behind throws", x, 0, 0, 0, 0, 0, 0);
    }
}
