/** Rows of the small language by their names, and programs and tests made of them. */
final class Rows {
    static final int LEAST = Integer.MIN_VALUE;
    static final int MOST = Integer.MAX_VALUE;

    private Rows() {
    }

    static int[] number(int x, int value) {
        return new int[] {0, x, value, 0};
    }

    static int[] plus(int x, int y, int z) {
        return new int[] {1, x, y, z};
    }

    static int[] minus(int x, int y, int z) {
        return new int[] {2, x, y, z};
    }

    static int[] times(int x, int y, int z) {
        return new int[] {3, x, y, z};
    }

    static int[] input(int x, int i) {
        return new int[] {4, x, i, 0};
    }

    /** IF: variable x below variable y goes to the line. */
    static int[] below(int x, int y, int line) {
        return new int[] {5, x, y, line};
    }

    static int[] go(int line) {
        return new int[] {6, 0, 0, line};
    }

    static int[] out(int x) {
        return new int[] {7, x, 0, 0};
    }

    static int tell(LineFinder x, int... row) {
        return x.line(row[0], row[1], row[2], row[3]);
    }

    static int change(LineFinder x, int line, int... row) {
        return x.change(line, row[0], row[1], row[2], row[3]);
    }

    static LineFinder program(int[]... rows) {
        LineFinder x = new LineFinder();
        for (int[] row : rows) {
            tell(x, row);
        }
        return x;
    }

    /** A test of input 0 alone, with its row. */
    static int exam(LineFinder x, int first, int... row) {
        return exam2(x, first, 0, row);
    }

    /** A test of inputs 0 and 1, with its row. */
    static int exam2(LineFinder x, int first, int second, int... row) {
        int t = x.test(first, second, 0, 0);
        for (int v : row) {
            x.wants(t, v);
        }
        return t;
    }

    static int bits(int... lines) {
        int set = 0;
        for (int line : lines) {
            set |= 1 << line;
        }
        return set;
    }

    /**
     * Lines 0 to 3, done in 2 steps and 2 for each of input 0 (1 at least), which variable 0
     * counts down to 0; variable 1 is 1 then.
     */
    static LineFinder countdown(int[]... behind) {
        LineFinder x = program(input(0, 0), number(1, 1), minus(0, 0, 1), below(7, 0, 2));
        for (int[] row : behind) {
            tell(x, row);
        }
        return x;
    }

    /** Input 0 below 0 does lines 0 1 4 5 and puts out 6; else 0 1 2 3 5, and 5. */
    static LineFinder twoWays() {
        return program(input(0, 0), below(0, 7, 4), number(1, 5), go(5), number(1, 6), out(1));
    }

    /**
     * By inputs 0 and 1, each 0 or -1, four ways: (0, 0) does lines 0 1 2 3 4, (0, -1) does
     * 0 1 2 3 5, (-1, 0) does 0 1 2 6 7, (-1, -1) does 0 1 2 6 8; nothing is put out.
     */
    static LineFinder fourWays() {
        return program(input(0, 0), input(1, 1), below(0, 7, 6), below(1, 7, 5), go(24), go(24),
            below(1, 7, 8), go(24), go(24));
    }
}
