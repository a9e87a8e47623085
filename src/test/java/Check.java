/** Counts the answers that are not as due, and ends a test by them. */
final class Check {
    private final String test;
    private int looked;
    private int wrong;

    Check(String test) {
        this.test = test;
    }

    void due(String what, int got, int want) {
        looked++;
        if (got != want) {
            wrong++;
            System.out.println(test + ": " + what + " answered " + got + ", due is " + want);
        }
    }

    void holds(String what, boolean truth) {
        due(what, truth ? 1 : 0, 1);
    }

    /** What several calls answered, in one row. */
    void row(String what, int[] got, int... want) {
        due(what + " (how many)", got.length, want.length);
        for (int i = 0; i < Math.min(got.length, want.length); i++) {
            due(what + " [" + i + "]", got[i], want[i]);
        }
    }

    void end() {
        System.out.println(test + ": " + looked + " looked at, " + wrong + " wrong");
        if (wrong != 0) {
            System.exit(1);
        }
    }

    /** Feeds a TEXT to THE TAPE, four bytes at a time: the latest feed()'s answer. */
    static int feedText(StageMachine x, String text) {
        int answer = 0;
        for (int i = 0; i < text.length(); i += 4) {
            int n = Math.min(4, text.length() - i);
            int v = 0;
            for (int k = 0; k < n; k++) {
                v |= text.charAt(i + k) << (8 * k);
            }
            answer = x.feed(n, v);
        }
        return answer;
    }

    static int playText(StageMachine x, String text) {
        feedText(x, text);
        return x.play();
    }

    static int[] ofThing(StageMachine x, int thing) {
        int[] row = new int[8];
        for (int what = 0; what < row.length; what++) {
            row[what] = x.ofThing(thing, what);
        }
        return row;
    }

    static int[] ofRope(StageMachine x, int rope) {
        int[] row = new int[8];
        for (int what = 0; what < row.length; what++) {
            row[what] = x.ofRope(rope, what);
        }
        return row;
    }

    static int[] stopped(StageMachine x) {
        return new int[] {x.stopped(0), x.stopped(1), x.stopped(2)};
    }

    static int[] counts(StageMachine x) {
        int[] row = new int[10];
        for (int what = 0; what < row.length; what++) {
            row[what] = x.count(what);
        }
        return row;
    }
}
