/** Part I of the document, and what stands ahead of it: lines, runs and tests at their edges. */
public final class EdgesOfRunsTest {
    /** Which of x, y, z (1, 2, 3) are variables, for each op. */
    private static final int[][] VARIABLES_OF_OP = {{1}, {1, 2, 3}, {1, 2, 3}, {1, 2, 3}, {1}, {1, 2}, {}, {1}};

    public static void main(String[] args) {
        Sentences s = new Sentences("EdgesOfRunsTest");
        all(s);
        s.end();
    }

    static void all(Sentences s) {
        s.holds("An object is used for at most 512 calls after it has been made", EdgesOfRunsTest::calls512);
        s.holds("A PROGRAM has LINES 0 .. n - 1 (24 at most), told one by one", EdgesOfRunsTest::lines24);
        s.holds("each an OP with three numbers x, y, z", EdgesOfRunsTest::ops0To7);
        s.holds("VARIABLES are 0 .. 7", EdgesOfRunsTest::variables0To7);
        s.holds("VARIABLES are 0 .. 7", "each its own", EdgesOfRunsTest::variablesApart);
        s.holds("ints that go round", EdgesOfRunsTest::goRound);
        s.holds("0 as a RUN begins", EdgesOfRunsTest::zeroAsARunBegins);
        s.holds("0 x becomes y (a number -1000 .. 1000; z counts nothing)", EdgesOfRunsTest::number1000);
        s.holds("1 x becomes y and z together", EdgesOfRunsTest::together);
        s.holds("2 y less z", EdgesOfRunsTest::less);
        s.holds("3 y times z (VARIABLES x, y, z)", EdgesOfRunsTest::times);
        s.holds("4 x becomes INPUT y (0 .. 3)", EdgesOfRunsTest::inputs0To3);
        s.holds("5 IF: if VARIABLE x is below VARIABLE y, LINE z is next", EdgesOfRunsTest::ifBelow);
        s.holds("6 LINE z is next", EdgesOfRunsTest::goes);
        s.holds("7 VARIABLE x is put OUT", EdgesOfRunsTest::putOut);
        s.holds("z of 5 and 6: 0 .. 24", EdgesOfRunsTest::targets0To24);
        s.holds("LINES that there are not yet may be told", EdgesOfRunsTest::linesNotYet);
        s.holds("A RUN begins with LINE 0", EdgesOfRunsTest::beginsWithLine0);
        s.holds("each LINE leads to the next one but as told", EdgesOfRunsTest::leadsToTheNext);
        s.holds("it ends at a LINE that there is not", EdgesOfRunsTest::endsAtNoLine);
        s.holds("or when 6 numbers were put OUT", EdgesOfRunsTest::endsBySixOuts);
        s.holds("or, if it has not ended by that, behind 300 STEPS (CUT)", EdgesOfRunsTest::cutBehind300);
        s.holds("or, if it has not ended by that, behind 300 STEPS (CUT)", "ended by that at step 300",
            EdgesOfRunsTest::endedAtStep300);
        s.holds("TESTS have numbers from 0 on (12 at most)", EdgesOfRunsTest::tests12);
        s.holds("four INPUTS, and a row of numbers, 6 at most (told one by one)", EdgesOfRunsTest::row6);
        s.holds("A TEST PASSES if what comes OUT is just that row", EdgesOfRunsTest::justThatRow);
        s.holds("and the RUN is not CUT; else it FAILS", EdgesOfRunsTest::cutFails);
    }

    private static void calls512(Check check) {
        LineFinder x = new LineFinder();
        for (int i = 0; i < 511; i++) {
            x.passes(0);
        }
        check.due("the 512th call", x.count(11), 511);
        LineFinder y = new LineFinder();
        for (int i = 0; i < 510; i++) {
            y.passes(0);
        }
        check.due("the 511th call", y.line(7, 0, 0, 0), 0);
        check.due("the 512th call, of another object", y.count(0), 1);
    }

    private static void lines24(Check check) {
        LineFinder x = new LineFinder();
        x.test(0, 0, 0, 0);
        for (int i = 0; i < 23; i++) {
            check.due("line " + i, Rows.tell(x, Rows.number(0, i)), i);
        }
        check.due("line 23, the last that is taken", Rows.tell(x, Rows.out(0)), 23);
        check.due("the 25th", Rows.tell(x, Rows.out(0)), -6);
        check.due("and again", Rows.tell(x, Rows.out(0)), -6);
        check.due("lines", x.count(0), 24);
        check.due("all 24 are done", x.steps(0), 24);
        check.due("line 23 puts out what line 22 wrote", x.out(0, 0), 22);
        check.due("no 25th puts out", x.outs(0), 1);
        check.due("refusals", x.count(16), 2);
    }

    private static void ops0To7(Check check) {
        LineFinder x = new LineFinder();
        int[] none = {-1, 8, Rows.LEAST, Rows.MOST};
        for (int op : none) {
            check.due("line of OP " + op, x.line(op, 0, 0, 0), -1);
        }
        for (int op = 0; op <= 7; op++) {
            check.due("line of OP " + op, x.line(op, 0, 0, 0), op);
        }
        for (int op : none) {
            check.due("change to OP " + op, x.change(0, op, 0, 0, 0), -1);
        }
        for (int op = 0; op <= 7; op++) {
            check.due("change to OP " + op, x.change(0, op, 0, 0, 0), op);
        }
        check.due("refusals", x.count(11), 8);
    }

    private static void variables0To7(Check check) {
        for (int op = 0; op <= 7; op++) {
            for (int place : VARIABLES_OF_OP[op]) {
                LineFinder x = Rows.program(Rows.out(0));
                int lines = 1;
                for (int v : new int[] {-1, 0, 7, 8, Rows.LEAST, Rows.MOST}) {
                    int[] row = {op, 0, 0, 0};
                    row[place] = v;
                    boolean isOne = v == 0 || v == 7;
                    String told = "OP " + op + ", number " + place + " of it " + v;
                    check.due("line of " + told, Rows.tell(x, row), isOne ? lines : -1);
                    lines += isOne ? 1 : 0;
                }
            }
        }
    }

    private static void variablesApart(Check check) {
        for (int first = 0; first <= 2; first += 2) {
            LineFinder x = new LineFinder();
            for (int v = 0; v <= 7; v++) {
                Rows.tell(x, Rows.number(v, 10 + v));
            }
            for (int v = first; v < first + 6; v++) {
                Rows.tell(x, Rows.out(v));
            }
            x.test(0, 0, 0, 0);
            for (int i = 0; i < 6; i++) {
                check.due("variable " + (first + i), x.out(0, i), 10 + first + i);
            }
        }
    }

    private static void goRound(Check check) {
        LineFinder x = Rows.program(Rows.input(0, 0), Rows.input(1, 1),
            Rows.plus(2, 0, 1), Rows.minus(3, 0, 1), Rows.times(4, 0, 1),
            Rows.out(2), Rows.out(3), Rows.out(4));
        int least = Rows.LEAST;
        int most = Rows.MOST;
        int[][] rounds = {
            {most, 1, least, most - 1, most}, {least, 1, least + 1, most, least},
            {least, -1, most, least + 1, least}, {least, least, 0, 0, 0},
            {most, most, -2, 0, 1}, {65536, 65536, 131072, 0, 0}, {0, least, least, least, 0},
        };
        for (int t = 0; t < rounds.length; t++) {
            int[] r = rounds[t];
            Rows.exam2(x, r[0], r[1], r[2], r[3], r[4]);
            check.due(r[0] + " and " + r[1], x.out(t, 0), r[2]);
            check.due(r[0] + " less " + r[1], x.out(t, 1), r[3]);
            check.due(r[0] + " times " + r[1], x.out(t, 2), r[4]);
            check.due("which passes", x.passes(t), 1);
        }
    }

    private static void zeroAsARunBegins(Check check) {
        for (int first = 0; first <= 4; first += 4) {
            LineFinder x = new LineFinder();
            for (int v = first; v < first + 4; v++) {
                Rows.tell(x, Rows.out(v));
            }
            for (int v = 0; v <= 7; v++) {
                Rows.tell(x, Rows.number(v, 5));
            }
            Rows.tell(x, Rows.below(0, 0, 24));
            Rows.exam(x, 9, 1);
            Rows.exam(x, 9, 0, 0, 0, 0);
            for (int i = 0; i < 4; i++) {
                check.due("variable " + (first + i) + " of the first run", x.out(0, i), 0);
                check.due("of another test's", x.out(1, i), 0);
                check.due("turning comes to nothing", x.turnFor(0), -9);
                check.due("behind turned runs", x.out(0, i), 0);
                check.due("setting comes to nothing", x.mends(0, 4 + i), 0);
                check.due("behind set runs", x.out(0, i), 0);
                check.due("of the second run", x.passes(1), 1);
            }
        }
    }

    private static void number1000(Check check) {
        LineFinder x = new LineFinder();
        check.due("-1001", x.line(0, 0, -1001, 0), -4);
        check.due("the least int", x.line(0, 0, Rows.LEAST, 0), -4);
        check.due("1001", x.line(0, 0, 1001, 0), -6);
        check.due("the greatest int", x.line(0, 0, Rows.MOST, 0), -6);
        check.due("-1000", x.line(0, 0, -1000, 0), 0);
        check.due("1000", x.line(0, 1, 1000, 0), 1);
        check.due("z -1", x.line(0, 2, 1, -1), 2);
        check.due("z 8", x.line(0, 2, 1, 8), 3);
        check.due("z 25", x.line(0, 2, 1, 25), 4);
        check.due("z least", x.line(0, 2, 1, Rows.LEAST), 5);
        check.due("z most", x.line(0, 2, 1, Rows.MOST), 6);
        for (int v = 0; v <= 2; v++) {
            Rows.tell(x, Rows.out(v));
        }
        x.test(0, 0, 0, 0);
        check.due("-1000 comes out", x.out(0, 0), -1000);
        check.due("1000 comes out", x.out(0, 1), 1000);
        check.due("z counted nothing", x.out(0, 2), 1);
        check.due("numbers 1001 are bad of OP 0 alone", x.line(4, 0, 0, 1001), 10);
        check.dueRefusals("of numbers", x, 0, 0, 0, 2, 0, 2);
    }

    /** Variable 1 is 7, 2 is -3, 3 is 50: what they are behind an op with those x, y, z. */
    private static void becomes(Check check, int[] row, int first, int second, int third) {
        LineFinder x = Rows.program(Rows.number(1, 7), Rows.number(2, -3), Rows.number(3, 50), row,
            Rows.out(1), Rows.out(2), Rows.out(3));
        x.test(0, 0, 0, 0);
        String told = " behind OP " + row[0] + " of " + row[1] + ", " + row[2] + ", " + row[3];
        check.due("variable 1" + told, x.out(0, 0), first);
        check.due("variable 2" + told, x.out(0, 1), second);
        check.due("variable 3" + told, x.out(0, 2), third);
    }

    private static void together(Check check) {
        becomes(check, Rows.plus(3, 1, 2), 7, -3, 4);
        becomes(check, Rows.plus(3, 2, 1), 7, -3, 4);
        becomes(check, Rows.plus(1, 1, 2), 4, -3, 50);
        becomes(check, Rows.plus(2, 1, 2), 7, 4, 50);
        becomes(check, Rows.plus(3, 1, 1), 7, -3, 14);
        becomes(check, Rows.plus(2, 2, 2), 7, -6, 50);
        becomes(check, Rows.plus(3, 1, 0), 7, -3, 7);
    }

    private static void less(Check check) {
        becomes(check, Rows.minus(3, 1, 2), 7, -3, 10);
        becomes(check, Rows.minus(3, 2, 1), 7, -3, -10);
        becomes(check, Rows.minus(1, 1, 2), 10, -3, 50);
        becomes(check, Rows.minus(2, 1, 2), 7, 10, 50);
        becomes(check, Rows.minus(3, 1, 1), 7, -3, 0);
        becomes(check, Rows.minus(2, 2, 2), 7, 0, 50);
        becomes(check, Rows.minus(3, 0, 1), 7, -3, -7);
    }

    private static void times(Check check) {
        becomes(check, Rows.times(3, 1, 2), 7, -3, -21);
        becomes(check, Rows.times(3, 2, 1), 7, -3, -21);
        becomes(check, Rows.times(1, 1, 2), -21, -3, 50);
        becomes(check, Rows.times(2, 1, 2), 7, -21, 50);
        becomes(check, Rows.times(3, 1, 1), 7, -3, 49);
        becomes(check, Rows.times(2, 2, 2), 7, 9, 50);
        becomes(check, Rows.times(3, 1, 0), 7, -3, 0);
    }

    private static void putOut(Check check) {
        LineFinder x = Rows.program(Rows.number(3, 5), Rows.number(4, 6), Rows.out(4), Rows.out(3),
            Rows.number(3, 8), Rows.out(3), Rows.out(3));
        check.due("y and z count nothing", x.line(7, 4, 99, -99), 7);
        x.test(0, 0, 0, 0);
        check.due("how many", x.outs(0), 5);
        check.due("variable 4, told first", x.out(0, 0), 6);
        check.due("variable 3 as it is then", x.out(0, 1), 5);
        check.due("variable 3 as it became", x.out(0, 2), 8);
        check.due("it is still that", x.out(0, 3), 8);
        check.due("variable 4 as it was", x.out(0, 4), 6);
    }

    private static void inputs0To3(Check check) {
        LineFinder x = new LineFinder();
        for (int y : new int[] {-1, 4, Rows.LEAST, Rows.MOST}) {
            check.due("INPUT " + y, x.line(4, 0, y, 0), -1);
        }
        for (int y = 0; y <= 3; y++) {
            check.due("INPUT " + y, x.line(4, y, y, 0), y);
        }
        for (int v = 0; v <= 3; v++) {
            Rows.tell(x, Rows.out(v));
        }
        int[][] inputs = {{Rows.LEAST, -1, 7, Rows.MOST}, {4, 3, 2, 1}};
        for (int t = 0; t < 2; t++) {
            x.test(inputs[t][0], inputs[t][1], inputs[t][2], inputs[t][3]);
        }
        for (int t = 0; t < 2; t++) {
            for (int y = 0; y <= 3; y++) {
                check.due("INPUT " + y + " of test " + t, x.out(t, y), inputs[t][y]);
            }
        }
    }

    private static void ifBelow(Check check) {
        LineFinder x = Rows.program(Rows.input(0, 0), Rows.input(1, 1), Rows.below(0, 1, 4), Rows.out(7));
        int[][] goes = {{1, 2}, {-1, 0}, {Rows.LEAST, Rows.MOST}, {-2, Rows.MOST}, {Rows.LEAST, 1}};
        int[][] stays = {{2, 2}, {0, 0}, {2, 1}, {Rows.MOST, Rows.LEAST}, {Rows.MOST, -2}, {Rows.MOST, Rows.MOST}};
        for (int[] in : goes) {
            int t = Rows.exam2(x, in[0], in[1]);
            check.due(in[0] + " is below " + in[1] + ": puts nothing out", x.outs(t), 0);
        }
        for (int[] in : stays) {
            int t = Rows.exam2(x, in[0], in[1]);
            check.due(in[0] + " is not below " + in[1] + ": puts out", x.outs(t), 1);
        }
        LineFinder itself = Rows.program(Rows.below(3, 3, 2), Rows.out(0));
        itself.test(0, 0, 0, 0);
        check.due("a variable is not below itself", itself.outs(0), 1);
    }

    private static void goes(Check check) {
        LineFinder x = Rows.program(Rows.go(3), Rows.out(0), Rows.go(4), Rows.go(1), Rows.go(4));
        x.test(0, 0, 0, 0);
        int[] steps = {0, 3, 1, 2, 4, 4, 4};
        for (int k = 0; k < steps.length; k++) {
            check.due("step " + k, x.step(0, k), steps[k]);
        }
        LineFinder back = Rows.program(Rows.out(0), Rows.go(0));
        back.test(0, 0, 0, 0);
        check.due("back to line 0", back.step(0, 2), 0);
        LineFinder others = Rows.program(new int[] {6, 99, -99, 2}, Rows.out(0), Rows.number(0, 1));
        others.test(0, 0, 0, 0);
        check.due("x and y count nothing", others.steps(0), 2);
    }

    private static void targets0To24(Check check) {
        for (int op = 5; op <= 6; op++) {
            LineFinder x = new LineFinder();
            check.due("OP " + op + " to 25", x.line(op, 0, 0, 25), -1);
            check.due("OP " + op + " to -1", x.line(op, 0, 0, -1), -1);
            check.due("OP " + op + " to the greatest int", x.line(op, 0, 0, Rows.MOST), -1);
            check.due("OP " + op + " to the least int", x.line(op, 0, 0, Rows.LEAST), -1);
            check.due("OP " + op + " to 24", x.line(op, 0, 0, 24), 0);
            check.due("OP " + op + " to 0", x.line(op, 0, 0, 0), 1);
            check.due("change to 25", x.change(0, op, 0, 0, 25), -1);
            check.due("change to -1", x.change(0, op, 0, 0, -1), -1);
            check.due("change to 24", x.change(0, op, 0, 0, 24), 0);
            check.due("change to 0", x.change(0, op, 0, 0, 0), 1);
        }
    }

    private static void linesNotYet(Check check) {
        LineFinder x = Rows.program(Rows.go(3));
        x.test(0, 0, 0, 0);
        check.due("line 3 is not there", x.steps(0), 1);
        Rows.tell(x, Rows.number(0, 1));
        Rows.tell(x, Rows.number(0, 2));
        check.due("lines 1 and 2 are passed over", x.steps(0), 1);
        Rows.tell(x, Rows.out(0));
        check.due("line 3 is there now", x.steps(0), 2);
        check.due("and is done", x.step(0, 1), 3);
        LineFinder y = Rows.program(Rows.number(1, 1), Rows.below(0, 1, 3), Rows.out(0));
        y.test(0, 0, 0, 0);
        check.due("the IF ends the run", y.steps(0), 2);
        Rows.tell(y, Rows.out(1));
        check.due("the IF leads to line 3 now", y.step(0, 2), 3);
        LineFinder last = Rows.program(Rows.go(23));
        last.test(0, 0, 0, 0);
        for (int i = 1; i <= 23; i++) {
            check.due("ahead of line " + i, last.steps(0), 1);
            Rows.tell(last, Rows.out(0));
        }
        check.due("line 23 is there now", last.steps(0), 2);
    }

    private static void beginsWithLine0(Check check) {
        LineFinder x = new LineFinder();
        x.test(0, 0, 0, 0);
        check.due("no line 0: no step", x.steps(0), 0);
        check.due("nothing comes out", x.outs(0), 0);
        check.due("the empty row passes", x.passes(0), 1);
        check.due("no cut run", x.count(6), 0);
        Rows.tell(x, Rows.go(24));
        check.due("line 0 is step 0", x.step(0, 0), 0);
        check.due("it alone", x.steps(0), 1);
    }

    private static void leadsToTheNext(Check check) {
        LineFinder x = Rows.program(Rows.number(0, 1), Rows.input(1, 0), Rows.plus(2, 0, 1), Rows.minus(2, 0, 1),
            Rows.times(2, 0, 1), Rows.below(0, 0, 0), Rows.out(0), Rows.go(8), Rows.out(1));
        x.test(0, 0, 0, 0);
        for (int k = 0; k < 9; k++) {
            check.due("step " + k, x.step(0, k), k);
        }
        check.due("and no more", x.steps(0), 9);
    }

    private static void endsAtNoLine(Check check) {
        int[][] last = {Rows.out(0), Rows.go(24), Rows.below(0, 1, 24), Rows.below(1, 0, 24)};
        for (int[] row : last) {
            for (int lines : new int[] {2, 23, 24}) {
                LineFinder x = Rows.program(Rows.number(1, 1));
                for (int i = 1; i < lines - 1; i++) {
                    Rows.tell(x, Rows.number(2, i));
                }
                Rows.tell(x, row);
                x.test(0, 0, 0, 0);
                check.due("steps with line " + (lines - 1) + " of OP " + row[0], x.steps(0), lines);
                check.due("no cut", x.count(6), 0);
            }
        }
        for (int[] row : last) {
            LineFinder alone = Rows.program(row);
            alone.test(0, 0, 0, 0);
            check.due("a line alone, of OP " + row[0], alone.steps(0), 1);
        }
        LineFinder behind = Rows.program(Rows.go(2), Rows.out(0));
        behind.test(0, 0, 0, 0);
        check.due("line n is not there", behind.steps(0), 1);
        LineFinder there = Rows.program(Rows.go(1), Rows.out(0));
        there.test(0, 0, 0, 0);
        check.due("line n - 1 is", there.steps(0), 2);
    }

    private static void endsBySixOuts(Check check) {
        LineFinder seven = new LineFinder();
        for (int i = 0; i < 7; i++) {
            Rows.tell(seven, Rows.out(0));
        }
        seven.test(0, 0, 0, 0);
        check.due("six numbers", seven.outs(0), 6);
        check.due("six steps", seven.steps(0), 6);
        check.due("the seventh line is not done", seven.met(0, 6), 0);
        LineFinder five = new LineFinder();
        for (int i = 0; i < 5; i++) {
            Rows.tell(five, Rows.out(0));
        }
        Rows.tell(five, Rows.number(0, 1));
        five.test(0, 0, 0, 0);
        check.due("five numbers end nothing", five.steps(0), 6);
        LineFinder loop = Rows.program(Rows.out(0), Rows.go(0));
        Rows.exam(loop, 0, 0, 0, 0, 0, 0, 0);
        check.due("the sixth ends the loop", loop.steps(0), 11);
        check.due("it passes", loop.passes(0), 1);
        check.due("no cut run", loop.count(6), 0);
    }

    private static void cutBehind300(Check check) {
        LineFinder x = Rows.program(Rows.go(0));
        x.test(0, 0, 0, 0);
        check.due("300 steps", x.steps(0), 300);
        check.due("step 299", x.step(0, 299), 0);
        check.due("no step 300", x.step(0, 300), -9);
        check.due("it is cut", x.count(6), 1);
        // 2 steps, 296 of the loop, lines 4, 5, and 6 would be the 301st
        LineFinder one = Rows.countdown(Rows.out(0), Rows.number(2, 1), Rows.number(2, 2));
        Rows.exam(one, 148, 0);
        check.due("300 of 301 steps", one.steps(0), 300);
        check.due("line 5 is the last", one.step(0, 299), 5);
        check.due("line 6 is not done", one.met(0, 6), 0);
        check.due("cut by one step", one.count(6), 1);
        // 2 steps, 292 of the loop, line 4, and five numbers: the sixth would be the 301st
        LineFinder five = Rows.countdown(Rows.number(2, 1), Rows.out(0), Rows.out(0), Rows.out(0), Rows.out(0),
            Rows.out(0), Rows.out(0));
        Rows.exam(five, 146);
        check.due("five numbers by step 300", five.outs(0), 5);
        check.due("and cut", five.count(6), 1);
    }

    private static void endedAtStep300(Check check) {
        LineFinder early = Rows.countdown(Rows.out(0));
        Rows.exam(early, 148, 0);
        check.due("299 steps", early.steps(0), 299);
        check.due("are not cut", early.count(6), 0);
        LineFinder off = Rows.countdown(Rows.out(0), Rows.number(2, 1));
        Rows.exam(off, 148, 0);
        check.due("300 steps, behind the last line", off.steps(0), 300);
        check.due("are not cut", off.count(6), 0);
        check.due("and pass", off.passes(0), 1);
        LineFinder away = Rows.countdown(Rows.out(0), Rows.go(24), Rows.out(0));
        Rows.exam(away, 148, 0);
        check.due("300 steps, to no line", away.steps(0), 300);
        check.due("are not cut", away.count(6), 0);
        check.due("and pass", away.passes(0), 1);
        LineFinder six = Rows.countdown(Rows.out(0), Rows.out(0), Rows.out(0), Rows.out(0), Rows.out(0),
            Rows.out(0), Rows.number(2, 1));
        Rows.exam(six, 146, 0, 0, 0, 0, 0, 0);
        check.due("300 steps, the sixth number", six.steps(0), 300);
        check.due("are not cut", six.count(6), 0);
        check.due("and pass", six.passes(0), 1);
    }

    private static void tests12(Check check) {
        LineFinder x = Rows.program(Rows.input(0, 0), Rows.out(0));
        for (int t = 0; t < 12; t++) {
            check.due("test " + t, x.test(100 + t, 0, 0, 0), t);
        }
        check.due("the 13th", x.test(7, 7, 7, 7), -6);
        check.due("tests", x.count(1), 12);
        check.due("inputs of the first", x.out(0, 0), 100);
        check.due("inputs of the last", x.out(11, 0), 111);
        check.due("no test 12", x.passes(12), -1);
    }

    private static void row6(Check check) {
        LineFinder x = Rows.program(Rows.input(0, 0), Rows.number(1, 1), Rows.out(0), Rows.plus(0, 0, 1), Rows.go(2));
        x.test(3, 0, 0, 0);
        x.test(Rows.MOST, 0, 0, 0);
        for (int i = 0; i < 6; i++) {
            check.due("passes with " + i + " of six numbers", x.passes(0), 0);
            check.due("number " + i, x.wants(0, 3 + i), i + 1);
        }
        check.due("passes with six", x.passes(0), 1);
        check.due("the seventh", x.wants(0, 9), -6);
        check.due("the row is as it was", x.passes(0), 1);
        check.due("the other test's row is its own", x.wants(1, Rows.MOST), 1);
        for (int i = 0; i < 5; i++) {
            x.wants(1, Rows.LEAST + i);
        }
        check.due("a row may hold any ints", x.passes(1), 1);
        check.due("the seventh of the other", x.wants(1, 0), -6);
    }

    private static void justThatRow(Check check) {
        LineFinder x = Rows.program(Rows.number(0, 1), Rows.number(1, 2), Rows.out(0), Rows.out(1));
        int[][] rows = {{1, 2}, {}, {1}, {2}, {2, 1}, {1, 3}, {3, 2}, {1, 2, 0}, {0, 1, 2}, {1, 2, 1, 2}};
        for (int t = 0; t < rows.length; t++) {
            Rows.exam(x, 0, rows[t]);
            check.due("row " + t, x.passes(t), t == 0 ? 1 : 0);
        }
        LineFinder zero = Rows.program(Rows.out(0));
        int[][] zeros = {{0}, {}, {0, 0}};
        for (int t = 0; t < zeros.length; t++) {
            Rows.exam(zero, 0, zeros[t]);
            check.due("zeros " + t, zero.passes(t), t == 0 ? 1 : 0);
        }
        LineFinder none = Rows.program(Rows.number(0, 1));
        check.due("nothing comes out, nothing wanted", none.passes(Rows.exam(none, 0)), 1);
        check.due("nothing comes out, a 0 wanted", none.passes(Rows.exam(none, 0, 0)), 0);
    }

    private static void cutFails(Check check) {
        LineFinder x = Rows.program(Rows.out(0), Rows.go(1));
        Rows.exam(x, 0, 0);
        check.due("what comes out", x.outs(0), 1);
        check.due("is its row", x.out(0, 0), 0);
        check.due("but it is cut", x.passes(0), 0);
        check.due("it fails", x.count(2), 1);
        check.due("it passes not", x.count(3), 0);
        LineFinder empty = Rows.program(Rows.go(0));
        Rows.exam(empty, 0);
        check.due("the empty row, cut", empty.passes(0), 0);
        check.due("in version 0, cut", empty.passesIn(0, 0), 0);
        Rows.change(x, 1, Rows.go(24));
        check.due("no longer cut", x.passes(0), 1);
        check.due("no longer failing", x.count(2), 0);
        check.due("passing", x.count(3), 1);
    }
}
