/** Promises 25 to 28: changes, versions and the search by halves. */
public final class ChangeTest {
    public static void main(String[] args) {
        Check check = new Check("ChangeTest");
        changes(check);
        changeRefusals(check);
        changesHaveRoom(check);
        versions(check);
        versionsOfAFullProgram(check);
        versionRefusals(check);
        halves(check);
        halvesOfTwenty(check);
        halvesToAndFro(check);
        breakRefusals(check);
        check.end();
    }

    /** Puts out v0, which line 0 makes 1. */
    private static LineFinder one() {
        LineFinder x = new LineFinder();
        x.line(0, 0, 1, 0);
        x.line(7, 0, 0, 0);
        x.test(0, 0, 0, 0);
        x.wants(0, 1);
        return x;
    }

    private static void changes(Check check) {
        LineFinder x = one();
        check.due("passes as told", x.passes(0), 1);
        check.due("change 0", x.change(0, 0, 0, 2, 0), 0);
        check.due("out of the changed line", x.out(0, 0), 2);
        check.due("change 1, of the same line", x.change(0, 0, 0, 3, 0), 1);
        check.due("out of the line changed again", x.out(0, 0), 3);
        check.due("change to another OP", x.change(1, 6, 0, 0, 1), 2);
        check.due("now it is cut", x.count(6), 1);
        check.due("and fails", x.count(2), 1);
        check.due("changes", x.count(5), 3);
        check.due("lines", x.count(0), 2);
        check.due("no line more", x.line(7, 0, 0, 0), -3);
        check.due("prior outlives a change", x.prior(0, 5), 2);
        x.change(0, 0, 0, 1, 0);
        check.due("it is still there", x.prior(0, 5), 5);
    }

    private static void changeRefusals(Check check) {
        LineFinder x = one();
        check.due("no line 2", x.change(2, 0, 0, 0, 0), -1);
        check.due("no line -1", x.change(-1, 0, 0, 0, 0), -1);
        check.due("no line 24", x.change(24, 0, 0, 0, 0), -1);
        check.due("nobody ahead of below", x.change(2, 0, 0, -1001, 0), -1);
        check.due("nobody ahead of above", x.change(2, 0, 0, 1001, 0), -1);
        check.due("OP 8", x.change(0, 8, 0, 0, 0), -1);
        check.due("OP -1", x.change(0, -1, 0, 0, 0), -1);
        check.due("variable 8", x.change(0, 0, 8, 0, 0), -1);
        check.due("variable 8, read", x.change(0, 1, 0, 8, 0), -1);
        check.due("variable -1, read", x.change(0, 3, 0, 0, -1), -1);
        check.due("input 4", x.change(0, 4, 0, 4, 0), -1);
        check.due("IF to 25", x.change(0, 5, 0, 0, 25), -1);
        check.due("to -1", x.change(0, 6, 0, 0, -1), -1);
        check.due("number below", x.change(0, 0, 0, -1001, 0), -4);
        check.due("number above", x.change(0, 0, 0, 1001, 0), -6);
        check.due("no change came of it", x.count(5), 0);
        check.due("lines may still be told", x.line(7, 0, 0, 0), 2);
        check.dueRefusals("behind changes", x, 13, 0, 0, 1, 0, 1);
        check.due("a change to a line that there is not", x.change(0, 6, 99, 99, 24), 0);
    }

    private static void changesHaveRoom(Check check) {
        LineFinder x = one();
        for (int i = 0; i < 20; i++) {
            check.due("change " + i, x.change(0, 0, 0, i + 1, 0), i);
        }
        check.due("the 21st change", x.change(0, 0, 0, 0, 0), -6);
        check.due("nobody ahead of room", x.change(2, 0, 0, 0, 0), -1);
        check.due("below ahead of room", x.change(0, 0, 0, -1001, 0), -4);
        check.due("20 changes", x.count(5), 20);
        check.due("the last one holds", x.out(0, 0), 20);
        check.dueRefusals("behind 20 changes", x, 1, 0, 0, 1, 0, 1);
    }

    private static void versions(Check check) {
        LineFinder x = one();
        check.due("version 0 without changes", x.passesIn(0, 0), 1);
        x.change(0, 0, 0, 2, 0);
        x.change(0, 0, 0, 1, 0);
        x.change(1, 7, 1, 0, 0);
        int[] good = {1, 0, 1, 0};
        for (int k = 0; k < 4; k++) {
            check.due("version " + k, x.passesIn(k, 0), good[k]);
        }
        check.due("the last one is as it is", x.passes(0), 0);
        check.due("and its out", x.out(0, 0), 0);
        x.open(0, true);
        check.due("version 2 of an open test", x.passesIn(2, 0), 1);
    }

    private static void versionsOfAFullProgram(Check check) {
        LineFinder x = new LineFinder();
        for (int i = 0; i < 24; i++) {
            x.line(0, 0, i, 0);
        }
        x.test(0, 0, 0, 0);
        x.change(23, 7, 0, 0, 0);
        check.due("version 0 puts nothing out", x.passesIn(0, 0), 1);
        check.due("version 1 puts a number out", x.passesIn(1, 0), 0);
        check.due("change 0 broke it", x.broke(0), 0);
        check.due("the number", x.out(0, 0), 22);
        check.due("the slice of line 23", x.slice(0, 0), 1 << 22 | 1 << 23);
        check.due("set to what is not wanted either", x.mends(0, 22), 0);
    }

    private static void versionRefusals(Check check) {
        LineFinder x = one();
        check.due("version 1 without changes", x.passesIn(1, 0), -1);
        x.change(0, 0, 0, 1, 0);
        check.due("version 1", x.passesIn(1, 0), 1);
        check.due("version 2", x.passesIn(2, 0), -1);
        check.due("version -1", x.passesIn(-1, 0), -1);
        check.due("test 1", x.passesIn(0, 1), -1);
        check.due("test -1", x.passesIn(0, -1), -1);
        check.dueRefusals("behind versions", x, 5, 0, 0, 0, 0, 0);
    }

    private static void halves(Check check) {
        LineFinder x = one();
        x.change(0, 0, 0, 2, 0);
        check.due("one change broke it", x.broke(0), 0);
        check.due("no look is needed", x.looks(0), 0);
        x.change(0, 0, 0, 3, 0);
        check.due("low 0, high 2: the middle fails", x.broke(0), 0);
        check.due("one look", x.looks(0), 1);
        LineFinder y = one();
        for (int i = 0; i < 5; i++) {
            y.change(0, 0, 0, i < 3 ? 1 : 9, 0);
        }
        // 0 5: 2 good; 2 5: 3 good; 3 5: 4 bad
        check.due("change 3 broke it", y.broke(0), 3);
        check.due("three looks", y.looks(0), 3);
        LineFinder z = one();
        for (int i = 0; i < 5; i++) {
            z.change(0, 0, 0, i < 1 ? 1 : 9, 0);
        }
        // 0 5: 2 bad; 0 2: 1 good
        check.due("change 1 broke it", z.broke(0), 1);
        check.due("two looks", z.looks(0), 2);
    }

    private static void halvesOfTwenty(Check check) {
        int[] looks = {4, 4, 4, 5, 5, 4, 4, 4, 5, 5, 4, 4, 4, 5, 5, 4, 4, 4, 5, 5};
        for (int bad = 0; bad < 20; bad++) {
            LineFinder x = one();
            for (int i = 0; i < 20; i++) {
                x.change(0, 0, 0, i < bad ? 1 : 9, 0);
            }
            check.due("of 20 changes", x.broke(0), bad);
            check.due("looks for change " + bad, x.looks(0), looks[bad]);
        }
    }

    private static void halvesToAndFro(Check check) {
        LineFinder x = one();
        int[] values = {9, 1, 9, 1, 1, 9};   // versions 1 .. 6
        for (int v : values) {
            x.change(0, 0, 0, v, 0);
        }
        // 0 6: 3 bad; 0 3: 1 bad
        check.due("to and fro", x.broke(0), 0);
        check.due("looks to and fro", x.looks(0), 2);
        LineFinder y = one();
        int[] others = {9, 9, 1, 9, 1, 9};
        for (int v : others) {
            y.change(0, 0, 0, v, 0);
        }
        // 0 6: 3 good; 3 6: 4 bad
        check.due("to and fro again", y.broke(0), 3);
        check.due("looks to and fro again", y.looks(0), 2);
    }

    private static void breakRefusals(Check check) {
        LineFinder x = one();
        check.due("broke, it passes", x.broke(0), -3);
        check.due("looks, it passes", x.looks(0), -3);
        x.test(0, 0, 0, 0);
        x.wants(1, 2);
        check.due("broke, it fails in version 0 that is the last", x.broke(1), -3);
        x.change(0, 0, 0, 3, 0);
        check.due("broke, it fails in version 0", x.broke(1), -3);
        check.due("looks, it fails in version 0", x.looks(1), -3);
        x.change(0, 0, 0, 2, 0);
        check.due("broke, it passes now", x.broke(1), -3);
        check.due("looks, it passes now", x.looks(1), -3);
        check.due("broke(2)", x.broke(2), -1);
        check.due("broke(-1)", x.broke(-1), -1);
        check.due("looks(2)", x.looks(2), -1);
        check.due("looks(-1)", x.looks(-1), -1);
        check.dueRefusals("behind broke", x, 4, 0, 7, 0, 0, 0);
        x.open(0, true);
        check.due("an open test breaks too", x.broke(0), 0);
    }
}
