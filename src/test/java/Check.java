/** Counts the calls whose answer is not the one that is due. */
final class Check {
    interface Call {
        int answer();
    }

    private final String name;
    private int seen = 0;
    private int wrong = 0;

    Check(String name) {
        this.name = name;
    }

    void due(String call, long got, long want) {
        seen++;
        if (got != want) {
            wrong++;
            System.out.println(name + ": " + call + " answered " + got + ", due is " + want);
        }
    }

    void due(String what, String got, String want) {
        seen++;
        if (!got.equals(want)) {
            wrong++;
            System.out.println(name + ": " + what + " answered " + got + ", due is " + want);
        }
    }

    void dueThrow(String call, Call made) {
        seen++;
        try {
            int got = made.answer();
            wrong++;
            System.out.println(name + ": " + call + " answered " + got + ", due is IllegalArgumentException");
        } catch (IllegalArgumentException due) {
            return;
        }
    }

    /** Refusals -1 .. -6 as count tells them. */
    void dueRefusals(String when, LineFinder x, int... counts) {
        for (int i = 0; i < 6; i++) {
            due("count(" + (11 + i) + ") " + when, x.count(11 + i), counts[i]);
        }
    }

    int seen() {
        return seen;
    }

    int wrong() {
        return wrong;
    }

    void end() {
        System.out.println(name + ": " + seen + " answers, " + wrong + " wrong");
        if (wrong != 0) {
            System.exit(1);
        }
    }
}
