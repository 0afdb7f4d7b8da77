/**
 * Two objects that were told the same tell whether a call changed anything: one is asked all
 * there is to ask, the other one too, but behind that call. (Asking one object twice would not
 * do: it would need more calls than the document allows, and what is asked last tells things.)
 */
final class Twins {
    interface Story {
        LineFinder tell();
    }

    interface Call {
        long answer(LineFinder x);
    }

    private Twins() {
    }

    /** The call answers the number, is counted as that refusal and no other, and changes nothing else. */
    static void refused(Check check, String name, Story story, int number, Call call) {
        LineFinder without = story.tell();
        LineFinder with = story.tell();
        check.due(name, call.answer(with), number);
        for (int what = 11; what <= 16; what++) {
            int more = what == 10 - number ? 1 : 0;
            check.due("count(" + what + ") behind " + name, with.count(what), without.count(what) + more);
        }
        check.due("all answers behind " + name, answers(with), answers(without));
    }

    /** The call answers the number (no refusal) and changes nothing. */
    static void idle(Check check, String name, Story story, long number, Call call) {
        LineFinder without = story.tell();
        LineFinder with = story.tell();
        check.due(name, call.answer(with), number);
        check.due("refusals behind " + name, refusals(with), refusals(without));
        check.due("all answers behind " + name, answers(with), answers(without));
    }

    static void thrown(Check check, String name, Story story, Call call) {
        LineFinder without = story.tell();
        LineFinder with = story.tell();
        check.dueThrow(name, () -> (int) call.answer(with));
        check.due("refusals behind " + name, refusals(with), refusals(without));
        check.due("all answers behind " + name, answers(with), answers(without));
    }

    private static String refusals(LineFinder x) {
        StringBuilder all = new StringBuilder();
        for (int what = 11; what <= 16; what++) {
            all.append(' ').append(x.count(what));
        }
        return all.toString();
    }

    private static String answers(LineFinder x) {
        StringBuilder all = new StringBuilder();
        for (int what = 0; what <= 6; what++) {
            all.append(' ').append(x.count(what));
        }
        int lines = x.count(0);
        int tests = x.count(1);
        for (int t : some(tests)) {
            ofTest(all.append("\n test ").append(t), x, t, lines);
        }
        for (int line : some(lines)) {
            ofLine(all.append("\n line ").append(line), x, line);
        }
        ofSets(all.append("\n sets"), x);
        whatItTells(all.append("\n told"), x, lines, tests);
        return all.toString();
    }

    /** The first, one between and the last; all of a few. */
    private static int[] some(int size) {
        if (size <= 3) {
            int[] all = new int[size];
            for (int i = 0; i < size; i++) {
                all[i] = i;
            }
            return all;
        }
        return new int[] {0, size / 2, size - 1};
    }

    private static void ofTest(StringBuilder all, LineFinder x, int t, int lines) {
        all.append(' ').append(x.passes(t)).append(' ').append(x.steps(t)).append(' ').append(x.ifs(t));
        all.append(" step ").append(x.step(t, 0)).append(' ').append(x.step(t, x.steps(t) - 1));
        int outs = x.outs(t);
        for (int i = 0; i < outs; i++) {
            all.append(" out ").append(x.out(t, i)).append(' ').append(x.slice(t, i));
        }
        for (int line : some(lines)) {
            all.append(" met ").append(x.met(t, line)).append(" mends ").append(x.mends(t, line));
        }
        all.append(" turn ").append(x.turn(t, 0)).append(' ').append(x.turnFor(t));
        for (int version : some(x.count(5) + 1)) {
            all.append(" in ").append(x.passesIn(version, t));
        }
        all.append(" broke ").append(x.broke(t)).append(' ').append(x.looks(t));
    }

    private static void ofLine(StringBuilder all, LineFinder x, int line) {
        for (int kind = 0; kind < 3; kind++) {
            all.append(' ').append(x.score(line, kind, 0)).append('/').append(x.score(line, kind, 1));
            all.append(' ').append(x.rank(line, kind));
        }
    }

    private static void ofSets(StringBuilder all, LineFinder x) {
        int sets = x.suspects();
        all.append(' ').append(sets).append(' ').append(x.best()).append(' ').append(x.parting());
        for (int i : some(sets)) {
            all.append(' ').append(x.suspect(i)).append(' ').append(x.odds(i));
        }
    }

    /** Calls that change things tell what was: they stand last. */
    private static void whatItTells(StringBuilder all, LineFinder x, int lines, int tests) {
        for (int line = 0; line < lines; line++) {
            all.append(" prior ").append(x.prior(line, 1));
        }
        for (int t = 0; t < tests; t++) {
            all.append(" open ").append(x.open(t, true)).append(" wants ").append(x.wants(t, 0));
        }
        all.append(" more ").append(x.line(7, 0, 0, 0)).append(' ').append(x.test(0, 0, 0, 0));
        all.append(' ').append(x.change(0, 7, 0, 0, 0));
    }
}
