import java.math.BigInteger;
import java.util.ArrayList;
import java.util.Arrays;
import java.util.Comparator;
import java.util.HashSet;
import java.util.List;
import java.util.Set;
import java.util.TreeSet;

/** A second reading of the document, slow and plain, that shares no code with LineFinder. */
final class Model {
    static final class Exam {
        final int[] inputs;
        final List<Integer> row = new ArrayList<>();
        boolean open = false;

        Exam(int... inputs) {
            this.inputs = inputs;
        }
    }

    static final class Step {
        final int line;
        final Set<Integer> hangsOn = new TreeSet<>();

        Step(int line) {
            this.line = line;
        }
    }

    static final class Trip {
        final List<Step> steps = new ArrayList<>();
        final List<Integer> outs = new ArrayList<>();
        final List<Integer> outSteps = new ArrayList<>();
        int ifs = 0;
        boolean cut = false;

        boolean does(int line) {
            return steps.stream().anyMatch(s -> s.line == line);
        }
    }

    final List<int[]> told = new ArrayList<>();
    final List<int[]> changes = new ArrayList<>();
    final List<Exam> exams = new ArrayList<>();
    final int[] priors = new int[24];
    final int[] refused = new int[7];

    Model() {
        Arrays.fill(priors, 2);
    }

    private int no(int number) {
        refused[-number]++;
        return number;
    }

    private boolean hasTest(int t) {
        return t >= 0 && t < exams.size();
    }

    private boolean hasLine(int l) {
        return l >= 0 && l < told.size();
    }

    private static boolean in(int v, int least, int most) {
        return v >= least && v <= most;
    }

    private static boolean namesNobody(int op, int x, int y, int z) {
        if (!in(op, 0, 7)) return true;
        if (op != 6 && !in(x, 0, 7)) return true;
        if ((in(op, 1, 3) || op == 5) && !in(y, 0, 7)) return true;
        if (in(op, 1, 3) && !in(z, 0, 7)) return true;
        if (op == 4 && !in(y, 0, 3)) return true;
        return (op == 5 || op == 6) && !in(z, 0, 24);
    }

    int line(int op, int x, int y, int z) {
        if (namesNobody(op, x, y, z)) return no(-1);
        if (op == 0 && y < -1000) return no(-4);
        if (op == 0 && y > 1000) return no(-6);
        if (!changes.isEmpty()) return no(-3);
        if (told.size() == 24) return no(-6);
        told.add(new int[] {op, x, y, z});
        return told.size() - 1;
    }

    int test(int a, int b, int c, int d) {
        if (exams.size() == 12) return no(-6);
        exams.add(new Exam(a, b, c, d));
        return exams.size() - 1;
    }

    int wants(int t, int v) {
        if (!hasTest(t)) return no(-1);
        if (exams.get(t).row.size() == 6) return no(-6);
        exams.get(t).row.add(v);
        return exams.get(t).row.size();
    }

    int open(int t, boolean on) {
        if (!hasTest(t)) return no(-1);
        boolean was = exams.get(t).open;
        exams.get(t).open = on;
        return was == on ? 0 : 1;
    }

    private List<int[]> version(int k) {
        List<int[]> code = new ArrayList<>(told);
        for (int[] c : changes.subList(0, k)) code.set(c[0], new int[] {c[1], c[2], c[3], c[4]});
        return code;
    }

    private List<int[]> now() {
        return version(changes.size());
    }

    private static Trip trip(List<int[]> code, Exam exam, int turned, int setLine, int setValue) {
        Trip trip = new Trip();
        int[] v = new int[8];
        int[] wrote = {-1, -1, -1, -1, -1, -1, -1, -1};
        int lastIf = -1;
        int at = 0;
        while (at < code.size() && trip.outs.size() < 6) {
            int k = trip.steps.size();
            if (k == 300) {
                trip.cut = true;
                break;
            }
            int[] row = code.get(at);
            int op = row[0];
            Step step = new Step(at);
            trip.steps.add(step);
            if (lastIf >= 0) step.hangsOn.add(lastIf);
            int[] reads = {};
            if (op >= 1 && op <= 3) reads = new int[] {row[2], row[3]};
            if (op == 5) reads = new int[] {row[1], row[2]};
            if (op == 7) reads = new int[] {row[1]};
            for (int r : reads) if (wrote[r] >= 0) step.hangsOn.add(wrote[r]);
            int next = at + 1;
            if (op == 6) next = row[3];
            if (op == 7) {
                trip.outs.add(v[row[1]]);
                trip.outSteps.add(k);
            }
            if (op == 5) {
                boolean below = v[row[1]] < v[row[2]];
                if (trip.ifs == turned) below = !below;
                if (below) next = row[3];
                trip.ifs++;
                lastIf = k;
            }
            if (op <= 4) {
                int value = 0;
                if (op == 0) value = row[2];
                if (op == 1) value = v[row[2]] + v[row[3]];
                if (op == 2) value = v[row[2]] - v[row[3]];
                if (op == 3) value = v[row[2]] * v[row[3]];
                if (op == 4) value = exam.inputs[row[2]];
                v[row[1]] = at == setLine ? setValue : value;
                wrote[row[1]] = k;
            }
            at = next;
        }
        return trip;
    }

    Trip trip(int t) {
        return trip(now(), exams.get(t), -1, -1, 0);
    }

    /** What would come out with an IF turned or a line set (-1: none). */
    List<Integer> outsIf(int t, int turned, int setLine, int setValue) {
        return trip(now(), exams.get(t), turned, setLine, setValue).outs;
    }

    private boolean good(Trip trip, int t) {
        return !trip.cut && trip.outs.equals(exams.get(t).row);
    }

    private boolean good(int t) {
        return good(trip(t), t);
    }

    int passes(int t) {
        return hasTest(t) ? (good(t) ? 1 : 0) : no(-1);
    }

    int outs(int t) {
        return hasTest(t) ? trip(t).outs.size() : no(-1);
    }

    int out(int t, int i) {
        if (!hasTest(t) || !in(i, 0, trip(t).outs.size() - 1)) throw new IllegalArgumentException();
        return trip(t).outs.get(i);
    }

    int steps(int t) {
        return hasTest(t) ? trip(t).steps.size() : no(-1);
    }

    int step(int t, int k) {
        if (!hasTest(t)) return no(-1);
        List<Step> steps = trip(t).steps;
        return in(k, 0, steps.size() - 1) ? steps.get(k).line : -9;
    }

    int met(int t, int line) {
        if (!hasTest(t) || !hasLine(line)) return no(-1);
        return (int) trip(t).steps.stream().filter(s -> s.line == line).count();
    }

    private List<Trip> trips(boolean wantGood) {
        List<Trip> found = new ArrayList<>();
        for (int t = 0; t < exams.size(); t++) {
            if (!exams.get(t).open && good(t) == wantGood) found.add(trip(t));
        }
        return found;
    }

    private BigInteger[] fraction(int line, int kind, List<Trip> failing, List<Trip> passing) {
        long a = failing.stream().filter(r -> r.does(line)).count();
        long b = passing.stream().filter(r -> r.does(line)).count();
        long f = failing.size();
        long p = passing.size();
        long above = kind == 0 ? a : kind == 1 ? a * a : p == 0 ? a : a * p;
        long below = kind == 0 ? f + b : kind == 1 ? f * (a + b) : p == 0 ? f : a * p + b * f;
        if (below == 0) return new BigInteger[] {BigInteger.ZERO, BigInteger.ONE};
        BigInteger u = BigInteger.valueOf(above);
        BigInteger w = BigInteger.valueOf(below);
        BigInteger g = u.gcd(w);
        return new BigInteger[] {u.divide(g), w.divide(g)};
    }

    int score(int line, int kind, int part) {
        if (!hasLine(line)) return no(-1);
        if (!in(kind, 0, 2) || !in(part, 0, 1)) return no(-2);
        return fraction(line, kind, trips(false), trips(true))[part].intValueExact();
    }

    int rank(int line, int kind) {
        if (!hasLine(line)) return no(-1);
        if (!in(kind, 0, 2)) return no(-2);
        List<Trip> failing = trips(false);
        List<Trip> passing = trips(true);
        List<Integer> lines = new ArrayList<>();
        List<BigInteger[]> scores = new ArrayList<>();
        for (int l = 0; l < told.size(); l++) {
            lines.add(l);
            scores.add(fraction(l, kind, failing, passing));
        }
        Comparator<Integer> down = (l, m) ->
            scores.get(m)[0].multiply(scores.get(l)[1]).compareTo(scores.get(l)[0].multiply(scores.get(m)[1]));
        lines.sort(down.thenComparing(Comparator.naturalOrder()));
        return lines.indexOf(line);
    }

    int prior(int line, int v) {
        if (!hasLine(line)) return no(-1);
        if (v < 1) return no(-4);
        if (v > 9) return no(-6);
        int was = priors[line];
        priors[line] = v;
        return was;
    }

    private static int bitsMet(Trip trip) {
        int bits = 0;
        for (Step s : trip.steps) bits |= 1 << s.line;
        return bits;
    }

    List<Integer> sets() {
        List<Integer> found = new ArrayList<>();
        int[] met = trips(false).stream().mapToInt(Model::bitsMet).toArray();
        if (met.length == 0) return found;
        Set<Integer> all = new HashSet<>();
        for (int a = 0; a < told.size(); a++) {
            for (int b = 0; b < told.size(); b++) {
                for (int c = 0; c < told.size(); c++) all.add(1 << a | 1 << b | 1 << c);
            }
        }
        Set<Integer> hits = new HashSet<>();
        for (int set : all) if (hitsAll(set, met)) hits.add(set);
        for (int set : hits) {
            boolean least = true;
            for (int part = (set - 1) & set; part > 0; part = (part - 1) & set) {
                if (hits.contains(part)) least = false;
            }
            if (least) found.add(set);
        }
        Comparator<Integer> bySize = Comparator.comparing(Integer::bitCount);
        found.sort(bySize.thenComparing(Comparator.naturalOrder()));
        return found;
    }

    private static boolean hitsAll(int set, int[] met) {
        for (int m : met) if ((m & set) == 0) return false;
        return true;
    }

    private long oddsOf(int set, List<Trip> passing) {
        BigInteger odds = BigInteger.ONE;
        for (int l = 0; l < told.size(); l++) {
            if (l > 11) continue;
            odds = odds.multiply(BigInteger.valueOf((set & 1 << l) != 0 ? priors[l] : 10 - priors[l]));
        }
        for (Trip p : passing) {
            if ((bitsMet(p) & set) == 0) odds = odds.multiply(BigInteger.TWO);
        }
        return odds.longValueExact();
    }

    int suspects() {
        return sets().size();
    }

    int suspect(int i) {
        List<Integer> sets = sets();
        return in(i, 0, sets.size() - 1) ? sets.get(i) : -9;
    }

    long odds(int i) {
        List<Integer> sets = sets();
        return in(i, 0, sets.size() - 1) ? oddsOf(sets.get(i), trips(true)) : 0;
    }

    int best() {
        List<Integer> sets = sets();
        List<Trip> passing = trips(true);
        int found = -9;
        for (int set : sets) {
            if (found == -9 || oddsOf(set, passing) > oddsOf(found, passing)) found = set;
        }
        return found;
    }

    int slice(int t, int i) {
        if (!hasTest(t) || !in(i, 0, trip(t).outs.size() - 1)) return no(-1);
        Trip trip = trip(t);
        Set<Integer> seen = new HashSet<>();
        List<Integer> todo = new ArrayList<>(List.of(trip.outSteps.get(i)));
        int bits = 0;
        while (!todo.isEmpty()) {
            int k = todo.remove(todo.size() - 1);
            if (!seen.add(k)) continue;
            bits |= 1 << trip.steps.get(k).line;
            todo.addAll(trip.steps.get(k).hangsOn);
        }
        return bits;
    }

    int ifs(int t) {
        return hasTest(t) ? trip(t).ifs : no(-1);
    }

    private boolean goodTurned(int t, int k) {
        return good(trip(now(), exams.get(t), k, -1, 0), t);
    }

    int turn(int t, int k) {
        if (!hasTest(t) || !in(k, 0, trip(t).ifs - 1)) return no(-1);
        return goodTurned(t, k) ? 1 : 0;
    }

    int turnFor(int t) {
        if (!hasTest(t)) return no(-1);
        if (good(t)) return no(-3);
        for (int k = 0; k < trip(t).ifs; k++) if (goodTurned(t, k)) return k;
        return -9;
    }

    private int whyNoMending(int t, int line) {
        if (!hasTest(t) || !hasLine(line)) return -1;
        return now().get(line)[0] > 4 || good(t) ? -3 : 0;
    }

    private Integer mending(int t, int line) {
        List<Integer> values = new ArrayList<>();
        for (int v = -20; v <= 20; v++) values.add(v);
        Comparator<Integer> byAmount = Comparator.comparing(Math::abs);
        values.sort(byAmount.thenComparing(Comparator.naturalOrder()));
        for (int v : values) if (good(trip(now(), exams.get(t), -1, line, v), t)) return v;
        return null;
    }

    int mends(int t, int line) {
        int why = whyNoMending(t, line);
        if (why != 0) return no(why);
        return mending(t, line) == null ? 0 : 1;
    }

    int mendBy(int t, int line) {
        if (whyNoMending(t, line) != 0) throw new IllegalArgumentException();
        Integer v = mending(t, line);
        if (v == null) throw new IllegalArgumentException();
        return v;
    }

    int change(int line, int op, int x, int y, int z) {
        if (!hasLine(line) || namesNobody(op, x, y, z)) return no(-1);
        if (op == 0 && y < -1000) return no(-4);
        if (op == 0 && y > 1000 || changes.size() == 20) return no(-6);
        changes.add(new int[] {line, op, x, y, z});
        return changes.size() - 1;
    }

    private boolean goodIn(int k, int t) {
        return good(trip(version(k), exams.get(t), -1, -1, 0), t);
    }

    int passesIn(int k, int t) {
        if (!in(k, 0, changes.size()) || !hasTest(t)) return no(-1);
        return goodIn(k, t) ? 1 : 0;
    }

    private int[] halves(int t) {
        int low = 0;
        int high = changes.size();
        int looks = 0;
        while (high > low + 1) {
            int middle = (low + high) / 2;
            looks++;
            if (goodIn(middle, t)) low = middle; else high = middle;
        }
        return new int[] {high - 1, looks};
    }

    private int byHalves(int t, int part) {
        if (!hasTest(t)) return no(-1);
        if (good(t) || !goodIn(0, t)) return no(-3);
        return halves(t)[part];
    }

    int broke(int t) {
        return byHalves(t, 0);
    }

    int looks(int t) {
        return byHalves(t, 1);
    }

    int parting() {
        List<Integer> sets = sets();
        if (sets.isEmpty()) return -9;
        List<Trip> passing = trips(true);
        int found = -9;
        long least = Long.MAX_VALUE;
        for (int t = 0; t < exams.size(); t++) {
            if (!exams.get(t).open) continue;
            long with = 0;
            long without = 0;
            int met = bitsMet(trip(t));
            for (int set : sets) {
                if ((set & met) != 0) with += oddsOf(set, passing); else without += oddsOf(set, passing);
            }
            if (Math.abs(with - without) < least) {
                least = Math.abs(with - without);
                found = t;
            }
        }
        return found;
    }

    int count(int what) {
        switch (what) {
            case 0: return told.size();
            case 1: return exams.size();
            case 2: return trips(false).size();
            case 3: return trips(true).size();
            case 4: return (int) exams.stream().filter(e -> e.open).count();
            case 5: return changes.size();
            case 6:
                int cut = 0;
                for (int t = 0; t < exams.size(); t++) if (trip(t).cut) cut++;
                return cut;
            default: return in(what, 11, 16) ? refused[what - 10] : -9;
        }
    }
}
