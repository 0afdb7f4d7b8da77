/** Promises 19 to 24: slices, turned IFs and values that mend. */
public final class CauseTest {
    public static void main(String[] args) {
        Check check = new Check("CauseTest");
        slicesOfReads(check);
        slicesOfIfs(check);
        slicesByTheLatestWrite(check);
        sliceRefusals(check);
        ifs(check);
        turns(check);
        turnOfOneAlone(check);
        turnOfManyIfs(check);
        turnRefusals(check);
        mendsByTheLeastAmount(check);
        mendsWheneverDone(check);
        mendsEdges(check);
        mendsOfEachOp(check);
        mendRefusals(check);
        openTestsMendToo(check);
        check.end();
    }

    private static int bits(int... lines) {
        int set = 0;
        for (int line : lines) {
            set |= 1 << line;
        }
        return set;
    }

    private static void slicesOfReads(Check check) {
        LineFinder x = new LineFinder();
        x.line(0, 0, 1, 0);   // 0
        x.line(4, 1, 0, 0);   // 1
        x.line(0, 2, 3, 1);   // 2: y and z of OP 0 are no variables
        x.line(1, 3, 0, 1);   // 3: reads 0, 1
        x.line(2, 4, 2, 7);   // 4: reads 2, and 7 that nobody wrote
        x.line(3, 5, 3, 3);   // 5: reads 3
        x.line(7, 3, 0, 0);   // 6
        x.line(7, 4, 5, 5);   // 7: y, z of OP 7 count nothing
        x.line(7, 5, 0, 0);   // 8
        x.line(7, 7, 0, 0);   // 9
        x.line(7, 1, 0, 0);   // 10
        x.line(7, 2, 0, 0);   // 11
        x.test(0, 0, 0, 0);
        check.due("slice of plus", x.slice(0, 0), bits(0, 1, 3, 6));
        check.due("slice of minus", x.slice(0, 1), bits(2, 4, 7));
        check.due("slice of times", x.slice(0, 2), bits(0, 1, 3, 5, 8));
        check.due("slice of what nobody wrote", x.slice(0, 3), bits(9));
        check.due("slice of an input", x.slice(0, 4), bits(1, 10));
        check.due("slice of a number", x.slice(0, 5), bits(2, 11));
    }

    private static void slicesOfIfs(Check check) {
        LineFinder x = new LineFinder();
        x.line(0, 0, 5, 0);   // 0
        x.line(7, 1, 0, 0);   // 1: ahead of all IFs
        x.line(5, 0, 1, 9);   // 2: reads 0, 1: does not go
        x.line(0, 2, 4, 0);   // 3: hangs on 2
        x.line(5, 1, 2, 6);   // 4: goes to 6; reads 1, 2; hangs on 2
        x.line(0, 3, 1, 0);   // 5: is not done
        x.line(6, 0, 0, 7);   // 6: nobody hangs on it
        x.line(7, 4, 0, 0);   // 7: hangs on 4 alone
        x.test(0, 0, 0, 0);
        check.due("slice ahead of IFs", x.slice(0, 0), bits(1));
        check.due("slice behind IFs", x.slice(0, 1), bits(0, 2, 3, 4, 7));
    }

    private static void slicesByTheLatestWrite(Check check) {
        LineFinder x = new LineFinder();
        x.line(0, 0, 1, 0);   // 0: written over by 1
        x.line(0, 0, 2, 0);   // 1
        x.line(1, 0, 0, 0);   // 2: reads what 1 wrote, ahead of it
        x.line(7, 0, 0, 0);   // 3
        x.line(0, 0, 3, 0);   // 4
        x.line(7, 0, 0, 0);   // 5
        x.test(0, 0, 0, 0);
        check.due("slice of the latest write", x.slice(0, 0), bits(1, 2, 3));
        check.due("slice of a later write", x.slice(0, 1), bits(4, 5));
        LineFinder y = new LineFinder();
        for (int v = 0; v < 6; v++) {
            y.line(7, v, 0, 0);
        }
        y.test(0, 0, 0, 0);
        for (int v = 5; v >= 0; v--) {
            check.due("slice of a variable that nobody wrote", y.slice(0, v), bits(v));
        }
        x.change(0, 7, 0, 0, 0);
        check.due("slices begin anew", x.slice(0, 0), bits(0));
        check.due("and again", x.slice(0, 0), bits(0));
    }

    private static void sliceRefusals(Check check) {
        LineFinder x = new LineFinder();
        x.line(7, 0, 0, 0);
        check.due("slice without a test", x.slice(0, 0), -1);
        x.test(0, 0, 0, 0);
        check.due("slice", x.slice(0, 0), 1);
        check.due("slice of number 1", x.slice(0, 1), -1);
        check.due("slice of number -1", x.slice(0, -1), -1);
        check.due("slice of number 6", x.slice(0, 6), -1);
        check.due("slice of test -1", x.slice(-1, 0), -1);
        check.dueRefusals("behind slices", x, 5, 0, 0, 0, 0, 0);
    }

    /** Puts out 1 if input 0 is below input 1, else 2. */
    private static LineFinder choice() {
        LineFinder x = new LineFinder();
        x.line(4, 0, 0, 0);   // 0
        x.line(4, 1, 1, 0);   // 1
        x.line(5, 0, 1, 6);   // 2
        x.line(0, 2, 2, 0);   // 3
        x.line(7, 2, 0, 0);   // 4
        x.line(6, 0, 0, 24);  // 5
        x.line(0, 2, 1, 0);   // 6
        x.line(7, 2, 0, 0);   // 7
        return x;
    }

    private static void ifs(Check check) {
        LineFinder x = choice();
        check.due("ifs without a test", x.ifs(0), -1);
        x.test(0, 1, 0, 0);
        x.test(1, 0, 0, 0);
        check.due("an IF that goes", x.ifs(0), 1);
        check.due("an IF that does not go", x.ifs(1), 1);
        check.due("ifs(-1)", x.ifs(-1), -1);
        check.due("ifs(2)", x.ifs(2), -1);
        check.dueRefusals("behind ifs", x, 3, 0, 0, 0, 0, 0);
        LineFinder loop = new LineFinder();
        loop.line(0, 1, 1, 0);
        loop.line(5, 0, 1, 1);
        loop.test(0, 0, 0, 0);
        check.due("IFs of a cut run", loop.ifs(0), 299);
        check.due("turned, the last one leaves the loop", loop.turn(0, 298), 1);
        check.due("no IF behind the last", loop.turn(0, 299), -1);
        check.due("the least that mends", loop.turnFor(0), 0);
    }

    private static void turns(Check check) {
        LineFinder x = choice();
        x.test(0, 1, 0, 0);
        x.wants(0, 2);
        x.test(1, 0, 0, 0);
        x.wants(1, 1);
        x.test(0, 1, 0, 0);
        x.wants(2, 1);
        x.test(0, 1, 0, 0);
        x.wants(3, 3);
        check.due("one that went does not go", x.turn(0, 0), 1);
        check.due("one that did not go goes", x.turn(1, 0), 1);
        check.due("a test that passes, turned", x.turn(2, 0), 0);
        check.due("one that does not mend", x.turn(3, 0), 0);
        check.due("turnFor", x.turnFor(0), 0);
        check.due("turnFor of none", x.turnFor(3), -9);
        check.due("the test is as it was", x.passes(2), 1);
        check.due("steps are as they were", x.steps(0), 5);
        check.dueRefusals("behind turns", x, 0, 0, 0, 0, 0, 0);
    }

    private static void turnOfOneAlone(Check check) {
        LineFinder x = new LineFinder();
        x.line(0, 0, 3, 0);   // 0
        x.line(0, 1, 1, 0);   // 1
        x.line(2, 0, 0, 1);   // 2: three times
        x.line(7, 0, 0, 0);   // 3: puts out 2, 1, 0
        x.line(5, 7, 0, 2);   // 4
        x.test(0, 0, 0, 0);
        x.wants(0, 2);
        x.wants(0, 1);
        check.due("IFs", x.ifs(0), 3);
        check.due("turned at 2", x.turn(0, 0), 0);
        check.due("turned at 1", x.turn(0, 1), 1);
        check.due("turned at 0", x.turn(0, 2), 0);
        check.due("turnFor", x.turnFor(0), 1);
        x.test(0, 0, 0, 0);
        for (int i = 2; i >= -1; i--) {
            x.wants(1, i);
        }
        check.due("turned at 0, the next IF is as told", x.turn(1, 2), 1);
        check.due("turnFor the last", x.turnFor(1), 2);
    }

    private static void turnOfManyIfs(Check check) {
        LineFinder x = new LineFinder();
        x.line(5, 0, 0, 2);
        x.line(5, 0, 0, 3);
        x.line(7, 1, 0, 0);
        x.line(7, 2, 0, 0);
        x.test(0, 0, 0, 0);
        x.wants(0, 0);
        check.due("IFs", x.ifs(0), 2);
        check.due("turning the first passes over the second", x.turn(0, 0), 0);
        check.due("turning the second", x.turn(0, 1), 1);
        check.due("turnFor", x.turnFor(0), 1);
    }

    private static void turnRefusals(Check check) {
        LineFinder x = choice();
        check.due("turn without a test", x.turn(0, 0), -1);
        check.due("turnFor without a test", x.turnFor(0), -1);
        x.test(0, 1, 0, 0);
        x.wants(0, 1);
        check.due("turn of IF 1", x.turn(0, 1), -1);
        check.due("turn of IF -1", x.turn(0, -1), -1);
        check.due("turn of test 1", x.turn(1, 0), -1);
        check.due("turn of test -1", x.turn(-1, 0), -1);
        check.due("turnFor of a test that passes", x.turnFor(0), -3);
        check.due("turnFor of test 1", x.turnFor(1), -1);
        check.dueRefusals("behind turns", x, 7, 0, 1, 0, 0, 0);
    }

    private static void mendsByTheLeastAmount(Check check) {
        LineFinder x = new LineFinder();
        x.line(0, 0, 5, 0);   // 0
        x.line(3, 1, 0, 0);   // 1: its square
        x.line(7, 1, 0, 0);   // 2
        x.test(0, 0, 0, 0);
        x.wants(0, 9);
        check.due("mends", x.mends(0, 0), 1);
        check.due("of -3 and 3 the one below 0", x.mendBy(0, 0), -3);
        check.due("the square itself", x.mendBy(0, 1), 9);
        x.test(0, 0, 0, 0);
        x.wants(1, 0);
        check.due("0 is the least amount", x.mendBy(1, 0), 0);
        x.test(0, 0, 0, 0);
        x.wants(2, 10);
        check.due("no square", x.mends(2, 0), 0);
        check.due("the run is as it was", x.out(2, 0), 25);
        LineFinder y = new LineFinder();
        y.line(4, 0, 0, 0);   // 0
        y.line(0, 1, -2, 0);  // 1
        y.line(5, 1, 0, 4);   // 2: goes if v0 is more than -2
        y.line(7, 1, 0, 0);   // 3
        y.line(5, 0, 7, 6);   // 4: goes if v0 is below 0
        y.line(7, 1, 0, 0);   // 5
        y.test(-5, 0, 0, 0);
        y.wants(0, -2);
        y.wants(0, -2);
        // v0 at most -2 puts out one, -1 none, 0 and more one: two never
        check.due("no value mends", y.mends(0, 0), 0);
        y.test(-5, 0, 0, 0);
        check.due("-1 alone mends", y.mendBy(1, 0), -1);
    }

    private static void mendsWheneverDone(Check check) {
        LineFinder x = new LineFinder();
        x.line(0, 1, 1, 0);   // 0
        x.line(1, 0, 0, 1);   // 1: v0 = v0 + 1, each time
        x.line(7, 0, 0, 0);   // 2
        x.line(1, 2, 2, 1);   // 3: v2 = v2 + 1
        x.line(0, 3, 3, 0);   // 4: v3 = 3
        x.line(5, 2, 3, 1);   // 5: three times in all
        x.test(0, 0, 0, 0);
        for (int i = 0; i < 3; i++) {
            x.wants(0, 4);
        }
        check.due("1, 2, 3 comes out", x.passes(0), 0);
        check.due("set each time it is done", x.mendBy(0, 1), 4);
        check.due("the step of another line", x.mends(0, 0), 0);
        x.test(0, 0, 0, 0);
        x.wants(1, 1);
        x.wants(1, 2);
        check.due("the bound", x.mendBy(1, 4), 2);
        x.test(0, 0, 0, 0);
        x.wants(2, 1);
        // v3 set to 0, v2 to 3 or more: the loop ends behind once
        check.due("the least bound", x.mendBy(2, 4), 0);
        check.due("the counter", x.mendBy(2, 3), 3);
    }

    private static void mendsEdges(Check check) {
        LineFinder x = new LineFinder();
        x.line(4, 0, 0, 0);
        x.line(7, 0, 0, 0);
        x.line(0, 1, 0, 0);
        int[] wanted = {20, -20, 21, -21};
        for (int i = 0; i < 4; i++) {
            x.test(50, 0, 0, 0);
            x.wants(i, wanted[i]);
        }
        check.due("20", x.mendBy(0, 0), 20);
        check.due("-20", x.mendBy(1, 0), -20);
        check.due("21 is too far", x.mends(2, 0), 0);
        check.due("-21 is too far", x.mends(3, 0), 0);
        check.dueThrow("mendBy 21", () -> x.mendBy(2, 0));
        check.dueThrow("mendBy -21", () -> x.mendBy(3, 0));
        check.due("a line that does not matter", x.mends(0, 2), 0);
    }

    private static void mendsOfEachOp(Check check) {
        LineFinder x = new LineFinder();
        for (int op = 0; op <= 4; op++) {
            x.line(op, op, 0, 0);   // variable op, of variable 0 (number 0, input 0)
        }
        for (int v = 0; v <= 4; v++) {
            x.line(7, v, 0, 0);
        }
        int[][] rows = {{3, 6, 0, 9, 0}, {0, 9, 0, 0, 0}, {0, 0, 9, 0, 0}, {0, 0, 0, 9, 0}, {0, 0, 0, 0, 9}};
        int[] values = {3, 9, 9, 9, 9};
        for (int op = 0; op <= 4; op++) {
            x.test(0, 0, 0, 0);
            for (int v : rows[op]) {
                x.wants(op, v);
            }
            check.due("OP " + op + " can mend", x.mends(op, op), 1);
            check.due("OP " + op + " is set", x.mendBy(op, op), values[op]);
        }
    }

    private static void mendRefusals(Check check) {
        LineFinder x = choice();
        x.test(0, 1, 0, 0);
        x.wants(0, 1);
        x.test(0, 1, 0, 0);
        x.wants(1, 9);
        check.due("mends of test 2", x.mends(2, 0), -1);
        check.due("mends of test -1", x.mends(-1, 0), -1);
        check.due("mends of line 8", x.mends(1, 8), -1);
        check.due("mends of line -1", x.mends(1, -1), -1);
        check.due("nobody ahead of state", x.mends(0, 8), -1);
        check.due("an IF", x.mends(1, 2), -3);
        check.due("an OUT", x.mends(1, 4), -3);
        check.due("OP 6", x.mends(1, 5), -3);
        check.due("a test that passes", x.mends(0, 0), -3);
        check.dueRefusals("behind mends", x, 5, 0, 4, 0, 0, 0);
        check.dueThrow("mendBy of test 2", () -> x.mendBy(2, 0));
        check.dueThrow("mendBy of test -1", () -> x.mendBy(-1, 0));
        check.dueThrow("mendBy of line 8", () -> x.mendBy(1, 8));
        check.dueThrow("mendBy of line -1", () -> x.mendBy(1, -1));
        check.dueThrow("mendBy of an IF", () -> x.mendBy(1, 2));
        check.dueThrow("mendBy of a test that passes", () -> x.mendBy(0, 0));
        check.dueThrow("mendBy of a line that can't", () -> x.mendBy(1, 3));
        check.dueRefusals("what throws is not counted", x, 5, 0, 4, 0, 0, 0);
        check.due("mendBy", x.mendBy(1, 6), 9);
        x.change(6, 7, 2, 0, 0);
        check.due("line 6 is an OUT now", x.mends(1, 6), -3);
    }

    /** An OPEN test passes or not as any other does (promise 6), so it can be mended too. */
    private static void openTestsMendToo(Check check) {
        LineFinder x = choice();
        x.test(0, 1, 0, 0);
        x.wants(0, 2);
        x.open(0, true);
        check.due("passes", x.passes(0), 0);
        check.due("turnFor", x.turnFor(0), 0);
        check.due("mendBy", x.mendBy(0, 6), 2);
        x.test(0, 1, 0, 0);
        x.wants(1, 1);
        x.open(1, true);
        check.due("turnFor of an open test that passes", x.turnFor(1), -3);
        check.due("mends of an open test that passes", x.mends(1, 6), -3);
    }
}
