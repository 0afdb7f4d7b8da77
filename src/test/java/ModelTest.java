import java.util.List;
import java.util.Random;

/** Long random runs, the same calls to LineFinder and to Model: all answers must agree. */
public final class ModelTest {
    private static final int RUNS = 400;
    private static final int CALLS = 512;
    private static final long THROWN = Long.MIN_VALUE;

    interface Asked {
        long answer();
    }

    private final Check check;
    private final Random random;
    private final LineFinder finder = new LineFinder();
    private final Model model = new Model();
    private final int run;
    private final int mostLines;
    private final int oddity;

    private ModelTest(Check check, int run) {
        this.check = check;
        this.run = run;
        random = new Random(1000 + run);
        mostLines = 3 + random.nextInt(24);
        oddity = 4 + random.nextInt(40);
    }

    public static void main(String[] args) {
        Check check = new Check("ModelTest");
        for (int run = 0; run < RUNS; run++) {
            new ModelTest(check, run).go();
        }
        check.end();
    }

    private static long asked(Asked call) {
        try {
            return call.answer();
        } catch (IllegalArgumentException thrown) {
            return THROWN;
        }
    }

    private void both(String call, Asked byFinder, Asked byModel) {
        check.due("run " + run + ": " + call, asked(byFinder), asked(byModel));
    }

    private void go() {
        int calls = 0;
        for (int i = 0; i < mostLines && calls < CALLS; i++, calls++) tell(false);
        int tests = random.nextInt(10);
        for (int i = 0; i < tests && calls < CALLS; i++, calls++) exam();
        for (; calls < CALLS - 9; calls++) any();
        for (int what = 11; what <= 16; what++, calls++) counted(what);
    }

    /** Mostly what there is, now and then what there is not. */
    private int some(int below) {
        if (random.nextInt(oddity) == 0) {
            int[] odd = {-1, below, below + 1, Integer.MIN_VALUE, Integer.MAX_VALUE, -2, 12, 24};
            return odd[random.nextInt(odd.length)];
        }
        return below <= 0 ? 0 : random.nextInt(below);
    }

    private int small() {
        switch (random.nextInt(12)) {
            case 0: return random.nextInt();
            case 1: return random.nextInt(2003) - 1001;
            default: return random.nextInt(9) - 4;
        }
    }

    private int[] row() {
        int op = some(8);
        if (random.nextInt(4) == 0) op = 7;
        int narrow = random.nextInt(3) == 0 ? 8 : 3;
        int x = some(narrow);
        int y = op == 0 ? random.nextInt(9) - 4 : op == 4 ? some(4) : some(narrow);
        if (op == 0 && random.nextInt(oddity) == 0) {
            y = new int[] {1000, -1000, 1001, -1001, Integer.MAX_VALUE, Integer.MIN_VALUE}[random.nextInt(6)];
        }
        int z = op == 5 || op == 6 ? some(25) : some(narrow);
        if ((op == 5 || op == 6) && random.nextInt(2) == 0) z = Math.min(24, model.told.size() + random.nextInt(3));
        return new int[] {op, x, y, z};
    }

    private void tell(boolean asChange) {
        int[] r = row();
        String told = "(" + r[0] + ", " + r[1] + ", " + r[2] + ", " + r[3] + ")";
        if (asChange) {
            int line = some(model.told.size());
            both("change " + line + told, () -> finder.change(line, r[0], r[1], r[2], r[3]),
                () -> model.change(line, r[0], r[1], r[2], r[3]));
        } else {
            both("line" + told, () -> finder.line(r[0], r[1], r[2], r[3]), () -> model.line(r[0], r[1], r[2], r[3]));
        }
    }

    private void exam() {
        int a = small();
        int b = small();
        int c = small();
        int d = small();
        both("test", () -> finder.test(a, b, c, d), () -> model.test(a, b, c, d));
    }

    private void want() {
        int t = some(model.exams.size());
        int v = small();
        if (t >= 0 && t < model.exams.size()) {
            List<Integer> outs = aimed(t);
            int at = model.exams.get(t).row.size();
            if (at >= outs.size() && random.nextInt(12) != 0) return;
            if (at < outs.size() && random.nextInt(12) != 0) v = outs.get(at);
        }
        int wanted = v;
        both("wants(" + t + ", " + wanted + ")", () -> finder.wants(t, wanted), () -> model.wants(t, wanted));
    }

    /** Rows that come out plainly, or would by a turned IF or a set line, so that mending has its chance. */
    private List<Integer> aimed(int t) {
        switch ((t + run) % 4) {
            case 0: return model.outsIf(t, run % 3, -1, 0);
            case 1: return model.outsIf(t, -1, aimedLine(), run % 47 - 23);
            default: return model.outsIf(t, -1, -1, 0);
        }
    }

    private int aimedLine() {
        int size = model.told.size();
        for (int i = 0; i < size; i++) {
            int line = (run % 5 + i) % size;
            if (model.told.get(line)[0] <= 4) return line;
        }
        return 0;
    }

    private void counted(int what) {
        both("count(" + what + ")", () -> finder.count(what), () -> model.count(what));
    }

    private void any() {
        int t = some(model.exams.size());
        int l = some(model.told.size());
        switch (random.nextInt(34)) {
            case 0: tell(false); break;
            case 1: if (random.nextInt(2) == 0) exam(); else tell(false); break;
            case 2: case 3: case 4: case 5: want(); break;
            case 6:
                boolean on = random.nextInt(3) == 0;
                both("open(" + t + ", " + on + ")", () -> finder.open(t, on), () -> model.open(t, on));
                break;
            case 7: if (random.nextInt(3) == 0) tell(true); break;
            case 8: case 9: counted(random.nextInt(20) - 2); break;
            case 10: case 11: case 12: case 13: case 14: case 15: ofSets(l); break;
            default: ofTest(t, l);
        }
    }

    private void ofSets(int l) {
        int kind = some(3);
        int part = some(2);
        int v = some(10);
        switch (random.nextInt(8)) {
            case 0: both("suspects()", finder::suspects, model::suspects); break;
            case 1: case 2:
                int i = random.nextInt(4) == 0 ? some(200) : some(6);
                both("suspect(" + i + ")", () -> finder.suspect(i), () -> model.suspect(i));
                both("odds(" + i + ")", () -> finder.odds(i), () -> model.odds(i));
                break;
            case 3: both("best()", finder::best, model::best); break;
            case 4: both("parting()", finder::parting, model::parting); break;
            case 5: both("rank(" + l + ", " + kind + ")", () -> finder.rank(l, kind), () -> model.rank(l, kind)); break;
            case 6:
                both("score(" + l + ", " + kind + ", " + part + ")", () -> finder.score(l, kind, part),
                    () -> model.score(l, kind, part));
                break;
            default: both("prior(" + l + ", " + v + ")", () -> finder.prior(l, v), () -> model.prior(l, v));
        }
    }

    private void ofTest(int t, int line) {
        int l = random.nextInt(3) == 0 ? aimedLine() : line;
        int i = some(6);
        int k = random.nextInt(4) == 0 ? some(301) : some(12);
        switch (random.nextInt(15)) {
            case 0: both("passes(" + t + ")", () -> finder.passes(t), () -> model.passes(t)); break;
            case 1: both("outs(" + t + ")", () -> finder.outs(t), () -> model.outs(t)); break;
            case 2: both("out(" + t + ", " + i + ")", () -> finder.out(t, i), () -> model.out(t, i)); break;
            case 3: both("steps(" + t + ")", () -> finder.steps(t), () -> model.steps(t)); break;
            case 4: both("step(" + t + ", " + k + ")", () -> finder.step(t, k), () -> model.step(t, k)); break;
            case 5: both("met(" + t + ", " + l + ")", () -> finder.met(t, l), () -> model.met(t, l)); break;
            case 6: both("slice(" + t + ", " + i + ")", () -> finder.slice(t, i), () -> model.slice(t, i)); break;
            case 7: both("ifs(" + t + ")", () -> finder.ifs(t), () -> model.ifs(t)); break;
            case 8: both("turn(" + t + ", " + k + ")", () -> finder.turn(t, k), () -> model.turn(t, k)); break;
            case 9: both("turnFor(" + t + ")", () -> finder.turnFor(t), () -> model.turnFor(t)); break;
            case 10: both("mends(" + t + ", " + l + ")", () -> finder.mends(t, l), () -> model.mends(t, l)); break;
            case 11: both("mendBy(" + t + ", " + l + ")", () -> finder.mendBy(t, l), () -> model.mendBy(t, l)); break;
            case 12:
                int version = some(model.changes.size() + 1);
                both("passesIn(" + version + ", " + t + ")", () -> finder.passesIn(version, t),
                    () -> model.passesIn(version, t));
                break;
            case 13: both("broke(" + t + ")", () -> finder.broke(t), () -> model.broke(t)); break;
            default: both("looks(" + t + ")", () -> finder.looks(t), () -> model.looks(t));
        }
    }
}
