/** Finds which line of a small program is at fault; ../shared/DOC.md numbers its promises. */
public final class LineFinder {
    private static final int MOST_LINES = 24;
    private static final int MOST_TESTS = 12;
    private static final int MOST_CHANGES = 20;
    private static final int MOST_OUTS = 6;
    private static final int MOST_STEPS = 300;
    private static final int MOST_SETS = 2324; // all sets of 1, 2 or 3 of 24 lines
    private static final int VARIABLES = 8;
    private static final int INPUTS = 4;
    private static final int LARGEST_NUMBER = 1000;
    private static final int LINES_WITH_ODDS = 12;
    private static final int LEAST_PRIOR = 1;
    private static final int GREATEST_PRIOR = 9;
    private static final int FIRST_PRIOR = 2;
    private static final int LARGEST_MEND = 20;
    private static final int KINDS = 3;
    private static final int PARTS = 2;

    private static final int OP_NUMBER = 0;
    private static final int OP_PLUS = 1;
    private static final int OP_MINUS = 2;
    private static final int OP_TIMES = 3;
    private static final int OP_INPUT = 4;
    private static final int OP_IF = 5;
    private static final int OP_GO = 6;
    private static final int OP_OUT = 7;

    private static final int FINE = 0;
    private static final int NOBODY = -1;
    private static final int OTHER = -2;
    private static final int STATE = -3;
    private static final int BELOW = -4;
    private static final int ROOM = -6;
    private static final int NONE = -9;
    private static final int CANNOT_MEND = LARGEST_MEND + 1;

    private final History history;
    private final Suite suite;
    private final Run run;
    private final Slicer slicer;
    private final Verdicts verdicts;
    private final Fraction fraction;
    private final Fraction rival;
    private final Suspicion suspicion;
    private final Halves halves;
    private final int[] refusals;
    private boolean judged;

    public LineFinder() {
        history = new History();
        suite = new Suite();
        run = new Run();
        slicer = new Slicer();
        verdicts = new Verdicts();
        fraction = new Fraction();
        rival = new Fraction();
        suspicion = new Suspicion(verdicts);
        halves = new Halves();
        refusals = new int[7];
        judged = false;
    }

    public int line(int op, int x, int y, int z) {
        int fault = faultOfRow(op, x, y, z);
        if (fault != FINE) {
            return refuse(fault);
        }
        if (history.changes.size > 0) {
            return refuse(STATE);
        }
        if (history.now.size >= MOST_LINES) {
            return refuse(ROOM);
        }
        judged = false;
        history.tell(op, x, y, z);
        return history.now.size - 1;
    }

    public int test(int a, int b, int c, int d) {
        if (suite.size >= MOST_TESTS) {
            return refuse(ROOM);
        }
        judged = false;
        suite.add(a, b, c, d);
        return suite.size - 1;
    }

    public int wants(int test, int v) {
        if (!suite.has(test)) {
            return refuse(NOBODY);
        }
        if (suite.lengths[test] >= MOST_OUTS) {
            return refuse(ROOM);
        }
        judged = false;
        suite.want(test, v);
        return suite.lengths[test];
    }

    public int open(int test, boolean on) {
        if (!suite.has(test)) {
            return refuse(NOBODY);
        }
        if (suite.isOpen(test) == on) {
            return 0;
        }
        judged = false;
        suite.openBits ^= 1 << test;
        return 1;
    }

    public int passes(int test) {
        if (!suite.has(test)) {
            return refuse(NOBODY);
        }
        return asInt(passesNow(test));
    }

    public int outs(int test) {
        if (!suite.has(test)) {
            return refuse(NOBODY);
        }
        run.plainly(history.now, suite, test);
        return run.outCount;
    }

    public int out(int test, int i) throws IllegalArgumentException {
        if (!suite.has(test)) {
            throw new IllegalArgumentException("no such test");
        }
        run.plainly(history.now, suite, test);
        if (i < 0 || i >= run.outCount) {
            throw new IllegalArgumentException("no such number");
        }
        return run.outRow[i];
    }

    public int steps(int test) {
        if (!suite.has(test)) {
            return refuse(NOBODY);
        }
        run.plainly(history.now, suite, test);
        return run.stepCount;
    }

    public int step(int test, int k) {
        if (!suite.has(test)) {
            return refuse(NOBODY);
        }
        run.plainly(history.now, suite, test);
        return k >= 0 && k < run.stepCount ? run.trace[k] : NONE;
    }

    public int met(int test, int line) {
        if (!suite.has(test) || !history.hasLine(line)) {
            return refuse(NOBODY);
        }
        run.plainly(history.now, suite, test);
        return run.timesDone(line);
    }

    public int score(int line, int kind, int part) {
        if (!history.hasLine(line)) {
            return refuse(NOBODY);
        }
        if (kind < 0 || kind >= KINDS || part < 0 || part >= PARTS) {
            return refuse(OTHER);
        }
        judge();
        fraction.become(verdicts, line, kind);
        fraction.reduce();
        return part == 0 ? fraction.above : fraction.below;
    }

    public int rank(int line, int kind) {
        if (!history.hasLine(line)) {
            return refuse(NOBODY);
        }
        if (kind < 0 || kind >= KINDS) {
            return refuse(OTHER);
        }
        judge();
        fraction.become(verdicts, line, kind);
        int ahead = 0;
        for (int other = 0; other < history.now.size; other++) {
            rival.become(verdicts, other, kind);
            int order = rival.compareWith(fraction);
            if (order > 0 || (order == 0 && other < line)) {
                ahead++;
            }
        }
        return ahead;
    }

    public int prior(int line, int v) {
        if (!history.hasLine(line)) {
            return refuse(NOBODY);
        }
        if (v < LEAST_PRIOR) {
            return refuse(BELOW);
        }
        if (v > GREATEST_PRIOR) {
            return refuse(ROOM);
        }
        int before = suspicion.priors[line];
        suspicion.priors[line] = v;
        return before;
    }

    public int suspects() {
        judge();
        return suspicion.size;
    }

    public int suspect(int i) {
        judge();
        return suspicion.has(i) ? suspicion.sets[i] : NONE;
    }

    public long odds(int i) {
        judge();
        return suspicion.has(i) ? suspicion.weigh(i) : 0L;
    }

    public int best() {
        judge();
        int found = NONE;
        long most = 0;
        for (int i = 0; i < suspicion.size; i++) {
            long weight = suspicion.weigh(i);
            if (weight > most) {
                most = weight;
                found = suspicion.sets[i];
            }
        }
        return found;
    }

    public int slice(int test, int i) {
        if (!suite.has(test)) {
            return refuse(NOBODY);
        }
        run.plainly(history.now, suite, test);
        if (i < 0 || i >= run.outCount) {
            return refuse(NOBODY);
        }
        return slicer.linesBehind(history.now, run, i);
    }

    public int ifs(int test) {
        if (!suite.has(test)) {
            return refuse(NOBODY);
        }
        run.plainly(history.now, suite, test);
        return run.ifCount;
    }

    public int turn(int test, int k) {
        if (!suite.has(test)) {
            return refuse(NOBODY);
        }
        run.plainly(history.now, suite, test);
        if (k < 0 || k >= run.ifCount) {
            return refuse(NOBODY);
        }
        return asInt(passesTurned(test, k));
    }

    public int turnFor(int test) {
        if (!suite.has(test)) {
            return refuse(NOBODY);
        }
        if (passesNow(test)) {
            return refuse(STATE);
        }
        int ifs = run.ifCount;
        for (int k = 0; k < ifs; k++) {
            if (passesTurned(test, k)) {
                return k;
            }
        }
        return NONE;
    }

    public int mends(int test, int line) {
        int fault = faultOfMending(test, line);
        if (fault != FINE) {
            return refuse(fault);
        }
        return asInt(mendingValue(test, line) != CANNOT_MEND);
    }

    public int mendBy(int test, int line) throws IllegalArgumentException {
        if (faultOfMending(test, line) != FINE) {
            throw new IllegalArgumentException("no such test or line, or nothing to mend");
        }
        int value = mendingValue(test, line);
        if (value == CANNOT_MEND) {
            throw new IllegalArgumentException("no value mends");
        }
        return value;
    }

    public int change(int line, int op, int x, int y, int z) {
        if (!history.hasLine(line)) {
            return refuse(NOBODY);
        }
        int fault = faultOfRow(op, x, y, z);
        if (fault != FINE) {
            return refuse(fault);
        }
        if (history.changes.size >= MOST_CHANGES) {
            return refuse(ROOM);
        }
        judged = false;
        history.alter(line, op, x, y, z);
        return history.changes.size - 1;
    }

    public int passesIn(int version, int test) {
        if (version < 0 || version > history.changes.size || !suite.has(test)) {
            return refuse(NOBODY);
        }
        return asInt(passesAt(version, test));
    }

    public int broke(int test) {
        int fault = faultOfBreaking(test);
        if (fault != FINE) {
            return refuse(fault);
        }
        halve(test);
        return halves.high - 1;
    }

    public int looks(int test) {
        int fault = faultOfBreaking(test);
        if (fault != FINE) {
            return refuse(fault);
        }
        halve(test);
        return halves.lookCount;
    }

    public int parting() {
        judge();
        if (suspicion.size == 0) {
            return NONE;
        }
        int found = NONE;
        long least = 0;
        for (int test = 0; test < suite.size; test++) {
            if (suite.isOpen(test)) {
                long away = suspicion.awayFromHalf(test);
                if (found == NONE || away < least) {
                    found = test;
                    least = away;
                }
            }
        }
        return found;
    }

    public int count(int what) {
        if (what >= 11 && what <= 16) {
            return refusals[what - 10];
        }
        judge();
        switch (what) {
            case 0:
                return history.now.size;
            case 1:
                return suite.size;
            case 2:
                return Integer.bitCount(verdicts.failing);
            case 3:
                return Integer.bitCount(verdicts.passing);
            case 4:
                return Integer.bitCount(suite.openBits);
            case 5:
                return history.changes.size;
            case 6:
                return Integer.bitCount(verdicts.cut);
            default:
                return NONE;
        }
    }

    private int refuse(int number) {
        refusals[-number]++;
        return number;
    }

    private static int asInt(boolean yes) {
        return yes ? 1 : 0;
    }

    /** Runs all tests and gathers the suspect sets, unless nothing has changed since. */
    private void judge() {
        if (judged) {
            return;
        }
        verdicts.become(history.now, suite, run);
        suspicion.gather(history.now.size);
        judged = true;
    }

    private boolean passesNow(int test) {
        run.plainly(history.now, suite, test);
        return run.bringsOut(suite, test);
    }

    private boolean passesTurned(int test, int k) {
        run.turning(history.now, suite, test, k);
        return run.bringsOut(suite, test);
    }

    private boolean passesAt(int version, int test) {
        run.plainly(history.version(version), suite, test);
        return run.bringsOut(suite, test);
    }

    private int faultOfMending(int test, int line) {
        if (!suite.has(test) || !history.hasLine(line)) {
            return NOBODY;
        }
        if (!writes(history.now.ops[line]) || passesNow(test)) {
            return STATE;
        }
        return FINE;
    }

    private int mendingValue(int test, int line) {
        for (int amount = 0; amount <= LARGEST_MEND; amount++) {
            if (passesSet(test, line, -amount)) {
                return -amount;
            }
            if (passesSet(test, line, amount)) {
                return amount;
            }
        }
        return CANNOT_MEND;
    }

    private boolean passesSet(int test, int line, int value) {
        run.setting(history.now, suite, test, line, value);
        return run.bringsOut(suite, test);
    }

    private int faultOfBreaking(int test) {
        if (!suite.has(test)) {
            return NOBODY;
        }
        if (passesNow(test) || !passesAt(0, test)) {
            return STATE;
        }
        return FINE;
    }

    private void halve(int test) {
        halves.begin(history.changes.size);
        // each look brings low and high nearer, so there are never more looks than changes
        for (int i = 0; i < MOST_CHANGES && halves.areApart(); i++) {
            halves.look(passesAt(halves.middle(), test));
        }
    }

    private static int faultOfRow(int op, int x, int y, int z) {
        if (op < OP_NUMBER || op > OP_OUT || !namesWhatThereIs(op, x, y, z)) {
            return NOBODY;
        }
        if (op == OP_NUMBER && y < -LARGEST_NUMBER) {
            return BELOW;
        }
        if (op == OP_NUMBER && y > LARGEST_NUMBER) {
            return ROOM;
        }
        return FINE;
    }

    /** Looks only at the numbers that the op reads: the others may be anything. */
    private static boolean namesWhatThereIs(int op, int x, int y, int z) {
        switch (op) {
            case OP_PLUS:
            case OP_MINUS:
            case OP_TIMES:
                return isVariable(x) && isVariable(y) && isVariable(z);
            case OP_INPUT:
                return isVariable(x) && y >= 0 && y < INPUTS;
            case OP_IF:
                return isVariable(x) && isVariable(y) && z >= 0 && z <= MOST_LINES;
            case OP_GO:
                return z >= 0 && z <= MOST_LINES;
            default:
                return isVariable(x);
        }
    }

    private static boolean isVariable(int number) {
        return number >= 0 && number < VARIABLES;
    }

    private static boolean writes(int op) {
        return op >= OP_NUMBER && op <= OP_INPUT;
    }

    /** Rows of ops with their numbers, let in by faultOfRow alone, so that what a row reads is there. */
    private static final class Code {
        final int[] ops = new int[MOST_LINES];
        final int[] xs = new int[MOST_LINES];
        final int[] ys = new int[MOST_LINES];
        final int[] zs = new int[MOST_LINES];
        int size = 0;

        void put(int at, int op, int x, int y, int z) {
            ops[at] = op;
            xs[at] = x;
            ys[at] = y;
            zs[at] = z;
        }

        void add(int op, int x, int y, int z) {
            put(size, op, x, y, z);
            size++;
        }

        void putRowOf(Code other, int row, int at) {
            put(at, other.ops[row], other.xs[row], other.ys[row], other.zs[row]);
        }

        void copy(Code other) {
            size = other.size;
            for (int i = 0; i < size; i++) {
                putRowOf(other, i, i);
            }
        }
    }

    /** The program as it was told, as it is, and the changes between. */
    private static final class History {
        final Code told = new Code();
        final Code now = new Code();
        final Code between = new Code();
        final Code changes = new Code();
        final int[] changedLines = new int[MOST_CHANGES];

        boolean hasLine(int line) {
            return line >= 0 && line < now.size;
        }

        void tell(int op, int x, int y, int z) {
            told.add(op, x, y, z);
            now.add(op, x, y, z);
        }

        void alter(int line, int op, int x, int y, int z) {
            changedLines[changes.size] = line;
            changes.add(op, x, y, z);
            now.put(line, op, x, y, z);
        }

        /** The answer is good until the next call: one room serves all versions. */
        Code version(int number) {
            between.copy(told);
            for (int i = 0; i < number; i++) {
                between.putRowOf(changes, i, changedLines[i]);
            }
            return between;
        }
    }

    /** The tests: their inputs, the rows that they want, and which are open (bits). */
    private static final class Suite {
        final int[] inputs = new int[MOST_TESTS * INPUTS];
        final int[] rows = new int[MOST_TESTS * MOST_OUTS];
        final int[] lengths = new int[MOST_TESTS];
        int openBits = 0;
        int size = 0;

        boolean has(int test) {
            return test >= 0 && test < size;
        }

        boolean isOpen(int test) {
            return (openBits >> test & 1) != 0;
        }

        void add(int a, int b, int c, int d) {
            int from = size * INPUTS;
            inputs[from] = a;
            inputs[from + 1] = b;
            inputs[from + 2] = c;
            inputs[from + 3] = d;
            size++;
        }

        void want(int test, int value) {
            rows[test * MOST_OUTS + lengths[test]] = value;
            lengths[test]++;
        }

        int inputOf(int test, int i) {
            return inputs[test * INPUTS + i];
        }

        int wantedOf(int test, int i) {
            return rows[test * MOST_OUTS + i];
        }
    }

    /** The latest run of a test: its steps and what came out. */
    private static final class Run {
        private static final int NOTHING = -1;

        final int[] trace = new int[MOST_STEPS];
        final int[] outRow = new int[MOST_OUTS];
        final int[] variables = new int[VARIABLES];
        int stepCount = 0;
        int outCount = 0;
        int ifCount = 0;
        boolean wasCut = false;
        int turnedIf = NOTHING;
        int setLine = NOTHING;
        int setValue = 0;

        void plainly(Code code, Suite suite, int test) {
            turnedIf = NOTHING;
            setLine = NOTHING;
            go(code, suite, test);
        }

        void turning(Code code, Suite suite, int test, int k) {
            turnedIf = k;
            setLine = NOTHING;
            go(code, suite, test);
        }

        void setting(Code code, Suite suite, int test, int line, int value) {
            turnedIf = NOTHING;
            setLine = line;
            setValue = value;
            go(code, suite, test);
        }

        private void go(Code code, Suite suite, int test) {
            stepCount = 0;
            outCount = 0;
            ifCount = 0;
            for (int i = 0; i < VARIABLES; i++) {
                variables[i] = 0;
            }
            int at = 0;
            while (stepCount < MOST_STEPS && goesOn(code, at)) {
                trace[stepCount] = at;
                stepCount++;
                at = act(code, suite, test, at);
            }
            wasCut = goesOn(code, at);
        }

        private boolean goesOn(Code code, int at) {
            return at < code.size && outCount < MOST_OUTS;
        }

        /** Does a line; the answer is the next one. */
        private int act(Code code, Suite suite, int test, int at) {
            int x = code.xs[at];
            switch (code.ops[at]) {
                case OP_IF:
                    return decides(variables[x] < variables[code.ys[at]]) ? code.zs[at] : at + 1;
                case OP_GO:
                    return code.zs[at];
                case OP_OUT:
                    outRow[outCount] = variables[x];
                    outCount++;
                    return at + 1;
                default:
                    variables[x] = at == setLine ? setValue : valueOf(code, suite, test, at);
                    return at + 1;
            }
        }

        private boolean decides(boolean below) {
            boolean turned = ifCount == turnedIf;
            ifCount++;
            return below != turned;
        }

        private int valueOf(Code code, Suite suite, int test, int at) {
            int y = code.ys[at];
            int z = code.zs[at];
            switch (code.ops[at]) {
                case OP_PLUS:
                    return variables[y] + variables[z];
                case OP_MINUS:
                    return variables[y] - variables[z];
                case OP_TIMES:
                    return variables[y] * variables[z];
                case OP_INPUT:
                    return suite.inputOf(test, y);
                default:
                    return y;
            }
        }

        boolean bringsOut(Suite suite, int test) {
            if (wasCut || outCount != suite.lengths[test]) {
                return false;
            }
            for (int i = 0; i < outCount; i++) {
                if (outRow[i] != suite.wantedOf(test, i)) {
                    return false;
                }
            }
            return true;
        }

        int timesDone(int line) {
            int times = 0;
            for (int k = 0; k < stepCount; k++) {
                if (trace[k] == line) {
                    times++;
                }
            }
            return times;
        }
    }

    /** Finds what a number put out hangs on, by carrying slices forward through a run. */
    private static final class Slicer {
        final int[] behindVariables = new int[VARIABLES];

        int linesBehind(Code code, Run run, int i) {
            for (int v = 0; v < VARIABLES; v++) {
                behindVariables[v] = 0;
            }
            int behindIf = 0;
            int outsSeen = 0;
            for (int k = 0; k < run.stepCount; k++) {
                int at = run.trace[k];
                int op = code.ops[at];
                int lines = 1 << at | behindIf | behindReads(code, at);
                if (op == OP_IF) {
                    behindIf = lines;
                } else if (writes(op)) {
                    behindVariables[code.xs[at]] = lines;
                } else if (op == OP_OUT) {
                    if (outsSeen == i) {
                        return lines;
                    }
                    outsSeen++;
                }
            }
            return 0;
        }

        private int behindReads(Code code, int at) {
            switch (code.ops[at]) {
                case OP_PLUS:
                case OP_MINUS:
                case OP_TIMES:
                    return behindVariables[code.ys[at]] | behindVariables[code.zs[at]];
                case OP_IF:
                    return behindVariables[code.xs[at]] | behindVariables[code.ys[at]];
                case OP_OUT:
                    return behindVariables[code.xs[at]];
                default:
                    return 0;
            }
        }
    }

    /** What all tests say (bits of tests): which meet each line, which fail, pass, are cut. */
    private static final class Verdicts {
        final int[] metBy = new int[MOST_LINES];
        int failing = 0;
        int passing = 0;
        int cut = 0;

        void become(Code code, Suite suite, Run run) {
            for (int line = 0; line < MOST_LINES; line++) {
                metBy[line] = 0;
            }
            failing = 0;
            passing = 0;
            cut = 0;
            for (int test = 0; test < suite.size; test++) {
                run.plainly(code, suite, test);
                note(suite, run, test);
            }
        }

        private void note(Suite suite, Run run, int test) {
            int bit = 1 << test;
            for (int k = 0; k < run.stepCount; k++) {
                metBy[run.trace[k]] |= bit;
            }
            if (run.wasCut) {
                cut |= bit;
            }
            if (suite.isOpen(test)) {
                return;
            }
            if (run.bringsOut(suite, test)) {
                passing |= bit;
            } else {
                failing |= bit;
            }
        }
    }

    /** A score: above by below, with below never 0. */
    private static final class Fraction {
        int above = 0;
        int below = 1;

        void become(Verdicts verdicts, int line, int kind) {
            int a = Integer.bitCount(verdicts.metBy[line] & verdicts.failing);
            int b = Integer.bitCount(verdicts.metBy[line] & verdicts.passing);
            int f = Integer.bitCount(verdicts.failing);
            int p = Integer.bitCount(verdicts.passing);
            if (kind == 0) {
                hold(a, f + b);
            } else if (kind == 1) {
                hold(a * a, f * (a + b));
            } else if (p == 0) {
                hold(a, f);
            } else {
                hold(a * p, a * p + b * f);
            }
        }

        private void hold(int upper, int lower) {
            above = lower == 0 ? 0 : upper;
            below = lower == 0 ? 1 : lower;
        }

        void reduce() {
            int divisor = below;
            int rest = above;
            // a remainder at least halves every second time, so 64 turns are enough for any int
            for (int i = 0; i < 64 && rest != 0; i++) {
                int next = divisor % rest;
                divisor = rest;
                rest = next;
            }
            if (divisor > 1) {
                above /= divisor;
                below /= divisor;
            }
        }

        int compareWith(Fraction other) {
            return Integer.compare(above * other.below, other.above * below);
        }
    }

    /** The suspect sets in their order (bits of lines), with the tests that meet them. */
    private static final class Suspicion {
        final Verdicts verdicts;
        final int[] sets = new int[MOST_SETS];
        final int[] setMetBy = new int[MOST_SETS];
        final int[] priors = new int[MOST_LINES];
        int size = 0;
        int lines = 0;

        Suspicion(Verdicts given) {
            verdicts = given;
            for (int line = 0; line < MOST_LINES; line++) {
                priors[line] = FIRST_PRIOR;
            }
        }

        boolean has(int i) {
            return i >= 0 && i < size;
        }

        /** The greatest line turns slowest, as it weighs most in the order by bits. */
        void gather(int lineCount) {
            size = 0;
            lines = lineCount;
            if (verdicts.failing == 0) {
                return;
            }
            for (int c = 0; c < lines; c++) {
                gatherSingle(c);
            }
            for (int c = 1; c < lines; c++) {
                gatherPairs(c);
            }
            for (int c = 2; c < lines; c++) {
                gatherTriples(c);
            }
        }

        private void gatherSingle(int c) {
            if (explains(verdicts.metBy[c])) {
                keep(1 << c, verdicts.metBy[c]);
            }
        }

        private void gatherPairs(int c) {
            for (int b = 0; b < c; b++) {
                int met = pairMetBy(b, c);
                if (explains(met) && !explains(verdicts.metBy[b]) && !explains(verdicts.metBy[c])) {
                    keep(1 << b | 1 << c, met);
                }
            }
        }

        private void gatherTriples(int c) {
            for (int b = 1; b < c; b++) {
                for (int a = 0; a < b; a++) {
                    int met = verdicts.metBy[a] | pairMetBy(b, c);
                    if (explains(met) && noPairExplains(a, b, c)) {
                        keep(1 << a | 1 << b | 1 << c, met);
                    }
                }
            }
        }

        private boolean noPairExplains(int a, int b, int c) {
            return !explains(pairMetBy(a, b)) && !explains(pairMetBy(a, c)) && !explains(pairMetBy(b, c));
        }

        private int pairMetBy(int b, int c) {
            return verdicts.metBy[b] | verdicts.metBy[c];
        }

        private boolean explains(int tests) {
            return (tests & verdicts.failing) == verdicts.failing;
        }

        private void keep(int set, int tests) {
            if (size < MOST_SETS) {
                sets[size] = set;
                setMetBy[size] = tests;
                size++;
            }
        }

        /** The odds of set i; a passing test that meets none of its lines doubles them. */
        long weigh(int i) {
            long weight = 1;
            for (int line = 0; line < lines && line < LINES_WITH_ODDS; line++) {
                boolean inside = (sets[i] >> line & 1) != 0;
                weight *= inside ? priors[line] : 10 - priors[line];
            }
            return weight << Integer.bitCount(verdicts.passing & ~setMetBy[i]);
        }

        /** How far twice the odds that a test meets are from all odds. */
        long awayFromHalf(int test) {
            long met = 0;
            long all = 0;
            for (int i = 0; i < size; i++) {
                long weight = weigh(i);
                all += weight;
                if ((setMetBy[i] >> test & 1) != 0) {
                    met += weight;
                }
            }
            return Math.abs(2 * met - all);
        }
    }

    /** The search by halves for the version that broke a test. */
    private static final class Halves {
        int low = 0;
        int high = 0;
        int lookCount = 0;

        void begin(int versions) {
            low = 0;
            high = versions;
            lookCount = 0;
        }

        boolean areApart() {
            return high > low + 1;
        }

        int middle() {
            return (low + high) / 2;
        }

        void look(boolean isFine) {
            if (isFine) {
                low = middle();
            } else {
                high = middle();
            }
            lookCount++;
        }
    }
}
