/** What the tests share: a tally of answers, and texts as feeds. */
final class Check {
    private int wrong = 0;
    private int asked = 0;
    private final String test;

    Check(String test) {
        this.test = test;
    }

    void due(String call, long got, long want) {
        asked++;
        if (got != want) {
            wrong++;
            System.out.println(test + ": " + call + " answered " + got + ", due is " + want);
        }
    }

    void due(String call, boolean got, boolean want) {
        due(call, got ? 1 : 0, want ? 1 : 0);
    }

    void due(String call, String got, String want) {
        asked++;
        if (!got.equals(want)) {
            wrong++;
            System.out.println(test + ": " + call + " answered " + got + ", due is " + want);
        }
    }

    /** Something else than an answer went wrong. */
    void fail(String what) {
        wrong++;
        System.out.println(test + ": " + what);
    }

    void end() {
        System.out.println(test + ": " + asked + " answers, " + wrong + " wrong");
        if (wrong != 0) {
            System.exit(1);
        }
    }

    /** The three longs of the text's 24 signs from there on, filled up with 0. */
    static long[] signs(String text, int from) {
        long[] parts = new long[3];
        for (int n = 0; n < 24; n++) {
            long sign = from + n < text.length() ? text.charAt(from + n) : 0;
            parts[n / 8] = parts[n / 8] << 8 | sign & 255;
        }
        return parts;
    }

    static void feed(DanceWine x, String text) {
        for (int from = 0; from < text.length(); from += 24) {
            long[] p = signs(text, from);
            x.feed(p[0], p[1], p[2]);
        }
    }

    /** Feeds a text and reads it. */
    static int told(DanceWine x, String text) {
        feed(x, text);
        return x.cellar();
    }

    /** A new object with that cellar, which must have no fault. */
    static DanceWine cellar(String text) {
        DanceWine x = new DanceWine();
        int fault = told(x, text);
        if (fault != 0) {
            throw new IllegalStateException("fault " + fault % 16 + " at " + fault / 16 + " of: " + text);
        }
        return x;
    }
}
