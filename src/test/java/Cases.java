import java.util.NoSuchElementException;

/** What the files of boundary cases share. */
abstract class Cases {
    static final Check CHECK = new Check("BoundaryTest");
    static final int MIN = Integer.MIN_VALUE;
    static final int MAX = Integer.MAX_VALUE;
    static final int THROWN = -99;

    // Which case is run, for what is printed.
    static String about = "";

    static void due(String call, long got, long want) {
        CHECK.due(about + ": " + call, got, want);
    }

    static void due(String call, boolean got, boolean want) {
        CHECK.due(about + ": " + call, got, want);
    }

    static void due(String call, String got, String want) {
        CHECK.due(about + ": " + call, got, want);
    }

    static DanceWine cellar(String text) {
        return Check.cellar(text);
    }

    /** The text has ^ ahead of the token that is wrong, or at its end. */
    static void fault(int kind, String marked) {
        String text = marked.replace("^", "");
        due(marked, Check.told(new DanceWine(), text), kind + 16 * marked.indexOf('^'));
    }

    static void fine(String text) {
        due(text, Check.told(new DanceWine(), text), 0);
    }

    static int send(DanceWine x, int order) {
        try {
            return x.send(order);
        } catch (NoSuchElementException e) {
            return THROWN;
        }
    }

    static void pour(DanceWine x, int guest, int... wines) {
        for (int wine : wines) {
            due("pour(" + guest + ", " + wine + ")", x.pour(guest, wine), true);
        }
    }

    /** All that can be asked of the evening without changing it, in less than 150 calls. */
    static String state(DanceWine x) {
        StringBuilder all = new StringBuilder();
        for (int what = 0; what < 10; what++) {
            all.append(x.count(what)).append(' ');
        }
        for (int w = 0; w < x.count(3); w++) {
            all.append("| wine ").append(x.wine(w, 0)).append(' ').append(x.wine(w, 1)).append(' ');
            all.append(x.step(w, 0)).append(' ');
        }
        for (int g = 0; g < x.count(4); g++) {
            all.append("| guest ");
            for (int what = 0; what < 6; what++) {
                all.append(x.guest(g, what)).append(' ');
            }
            for (int i = 0; i < x.guest(g, 4); i++) {
                all.append(x.glass(g, i)).append(' ');
            }
            all.append(x.walk(g, 0)).append(' ').append(x.walk(g, 2)).append(' ');
        }
        return all.append("| ").append(x.read(1)).append(' ').append(x.read(2)).toString();
    }
}
