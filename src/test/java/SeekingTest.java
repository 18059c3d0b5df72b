import java.util.NoSuchElementException;

/** Promises 13 (fewest), 14 (send), 15 (best), 16 (served) and 17 (row). */
public final class SeekingTest {
    private static final Check CHECK = new Check("SeekingTest");

    public static void main(String[] args) {
        fewest();
        fewestLimits();
        fewestKinds();
        fewestAmongOthers();
        sending();
        sendingWrong();
        best();
        bestOrders();
        served();
        servedKinds();
        CHECK.end();
    }

    private static final String STEPPING = "hall 8 8;dance a ahead;dance l left;dance h hop;";

    private static void fewestIs(DanceWine x, int guest, int cx, int cy, int... row) {
        String of = "fewest(" + guest + ", " + cx + ", " + cy + ", ";
        CHECK.due(of + "-1)", x.fewest(guest, cx, cy, -1), row.length);
        for (int i = 0; i < row.length; i++) {
            CHECK.due(of + i + ")", x.fewest(guest, cx, cy, i), row[i]);
        }
        CHECK.due(of + "beyond)", x.fewest(guest, cx, cy, row.length), -1);
        CHECK.due(of + "max)", x.fewest(guest, cx, cy, Integer.MAX_VALUE), -1);
        CHECK.due(of + "-2)", x.fewest(guest, cx, cy, -2), -1);
    }

    private static void fewestNone(DanceWine x, int guest, int cx, int cy) {
        for (int what = -2; what < 7; what++) {
            CHECK.due("fewest(" + guest + ", " + cx + ", " + cy + ", " + what + ")", x.fewest(guest, cx, cy, what), -1);
        }
    }

    private static void fewest() {
        DanceWine x = Check.cellar(STEPPING + "wine one glasses 9 of a 1;wine turn glasses 9 of l 1;"
                + "wine two glasses 9 of h 1;guest g plain at 3 3 way 0 age 0;pillar 0 0;");
        fewestIs(x, 0, 3, 3);
        fewestIs(x, 0, 3, 4, 0);
        fewestIs(x, 0, 3, 5, 2);
        fewestIs(x, 0, 3, 6, 0, 2);
        fewestIs(x, 0, 3, 7, 2, 2);
        fewestIs(x, 0, 2, 3, 1, 0);
        fewestIs(x, 0, 1, 4, 0, 1, 2);
        fewestIs(x, 0, 3, 2, 1, 1, 0);
        fewestIs(x, 0, 4, 3, 1, 1, 1, 0);
        fewestIs(x, 0, 4, 4, 0, 1, 1, 1, 0);
        fewestIs(x, 0, 5, 6, 0, 2, 1, 1, 1, 2);
        // that would be seven
        fewestNone(x, 0, 6, 6);
    }

    private static void fewestLimits() {
        String wines = "wine one glasses 2 of a 1;wine turn glasses 1 of l 1;wine two glasses 0 of h 1;"
                + "guest g plain at 3 3 way 0 age 0;guest j plain at 0 0 way 0 age 0;";
        DanceWine x = Check.cellar(STEPPING + wines);
        fewestIs(x, 0, 3, 5, 0, 0);
        fewestNone(x, 0, 3, 6);
        fewestIs(x, 0, 2, 4, 0, 1, 0);
        fewestNone(x, 0, 3, 2);
        CHECK.due("no glass is taken by asking", x.count(5), 3);
        x.pour(0, 0);
        fewestIs(x, 0, 3, 3);
        fewestIs(x, 0, 3, 4, 0);
        fewestNone(x, 0, 3, 5);
        x.pour(1, 0);
        fewestNone(x, 0, 3, 4);
        x.water(1);
        fewestNone(x, 0, 3, 4);
        x.undo();
        x.undo();
        fewestIs(x, 0, 3, 4, 0);
        fewestNone(x, 2, 3, 4);
        fewestNone(x, -1, 3, 4);
        fewestNone(x, 0, 8, 4);
        fewestNone(x, 0, -1, 4);
        fewestNone(x, 0, 3, 8);
        fewestNone(x, 0, 3, -1);

        x = Check.cellar("hall 8 2;dance a ahead;wine w glasses 99 of a 1;guest g plain at 0 0 way 1 age 0;");
        fewestIs(x, 0, 6, 0, 0, 0, 0, 0, 0, 0);
        fewestNone(x, 0, 7, 0);
        x = Check.cellar("hall 8 2;dance a ahead;guest g plain at 0 0 way 1 age 0;");
        fewestIs(x, 0, 0, 0);
        fewestNone(x, 0, 1, 0);
    }

    private static void fewestKinds() {
        String text = "hall 8 8;dance a ahead;dance l left;wine one glasses 9 of a 1;wine turn glasses 9 of l 1;";
        DanceWine x = Check.cellar(text + "guest o old at 3 3 way 0 age 0;guest w waiter at 1 1 way 0 age 0;"
                + "guest u uncle at 3 3 way 0 age 0;");
        // an old one dances the last glass first
        fewestIs(x, 0, 2, 3, 0, 1);
        fewestIs(x, 0, 2, 4, 0, 1, 0);
        fewestIs(x, 1, 1, 1);
        fewestNone(x, 1, 1, 2);
        fewestIs(x, 2, 4, 3, 1, 0);
        // drunk is how many the row has
        x = Check.cellar(text + "guest g plain at 3 3 way 0 age 0;stagger drunk<3;");
        fewestIs(x, 0, 3, 4, 0, 1, 1);
        x = Check.cellar(text + "guest g plain at 3 3 way 0 age 0;stagger glass=0;");
        fewestIs(x, 0, 3, 4, 0, 0);
        x = Check.cellar(text + "guest g old at 3 3 way 0 age 0;stagger glass=0;");
        fewestIs(x, 0, 2, 3, 0, 0, 1);
        x = Check.cellar(text + "pillar 3 4;guest g plain at 3 3 way 0 age 0;");
        fewestNone(x, 0, 3, 4);
    }

    /** What is asked in between changes no answer. */
    private static void fewestAmongOthers() {
        DanceWine x = Check.cellar(STEPPING + "wine one glasses 9 of a 1;wine turn glasses 9 of l 1;"
                + "guest g plain at 3 3 way 0 age 0;guest k plain at 3 2 way 0 age 0;");
        fewestIs(x, 0, 2, 4, 0, 1, 0);
        fewestIs(x, 1, 2, 4, 0, 0, 1, 0);
        fewestIs(x, 0, 2, 4, 0, 1, 0);
        CHECK.due("served", x.served(0, 2, 4, 3), 1);
        CHECK.due("fewest(0, 2, 4, 1)", x.fewest(0, 2, 4, 1), 1);
        CHECK.due("row", x.row(0, 3, 6, 0, 0, 1), 0);
        CHECK.due("fewest(0, 2, 4, 1)", x.fewest(0, 2, 4, 1), 1);
        CHECK.due("couples", x.couples(1), 1);
        CHECK.due("fewest(0, 2, 4, 0)", x.fewest(0, 2, 4, 0), 0);
        Check.told(x, STEPPING + "wine one glasses 9 of h 1;wine turn glasses 9 of l 1;guest g plain at 3 3 way 0 age 0;");
        fewestNone(x, 0, 2, 4);
        fewestIs(x, 0, 1, 5, 0, 1, 0);
    }

    private static void sent(DanceWine x, int order, int want) {
        int got;
        try {
            got = x.send(order);
        } catch (NoSuchElementException e) {
            got = -99;
        }
        CHECK.due("send(" + Integer.toOctalString(order) + ")", got, want);
    }

    private static void sending() {
        // a row of three on the way to the carriage: the foremost must go first
        DanceWine x = Check.cellar("hall 4 2;carriage 3 0;dance a ahead;wine w glasses 9 of a 3;"
                + "guest g plain at 0 0 way 1 age 0;guest h plain at 1 0 way 1 age 0;guest i plain at 2 0 way 1 age 0;");
        sent(x, 0210, 0);
        for (int g = 0; g < 3; g++) {
            x.pour(g, 0);
        }
        sent(x, 0012, 7);
        sent(x, 0102, 4 + 2);
        sent(x, 0120, 4 + 2);
        sent(x, 0210, 4);
        sent(x, 0021, 4);
        sent(x, 0201, 4);
        CHECK.due("nobody has moved", x.guest(0, 1), 0);
        CHECK.due("best", x.best(0), 3);
        CHECK.due("its order", x.best(1), 0012);
        // one told on the carriage stands in it till sent
        x = Check.cellar("hall 4 2;dance a ahead;wine w glasses 9 of a 2;guest g plain at 2 0 way 3 age 0;"
                + "guest h waiter at 0 0 way 1 age 0;");
        x.pour(0, 0);
        sent(x, 0010, 2);
        sent(x, 0001, 3);
        CHECK.due("walks by themselves", x.walk(0, 0), 0);
        // who comes through the carriage, but not to its end there, is not gone, and stands in the way
        x = Check.cellar("hall 5 2;carriage 2 0;dance a ahead;wine w glasses 9 of a 2;wine v glasses 9 of a 3;"
                + "guest g plain at 0 0 way 1 age 0;guest h plain at 1 0 way 1 age 0;guest i plain at 2 1 way 2 age 0;");
        x.pour(0, 0);
        x.pour(1, 1);
        x.pour(2, 0);
        sent(x, 0012, 4 + 1);
        sent(x, 0210, 4);
        sent(x, 0201, 4 + 1);
        CHECK.due("best", x.best(0), 2);
        CHECK.due("the first of these", x.best(1), 0201);
    }

    private static void sendingWrong() {
        DanceWine x = new DanceWine();
        sent(x, 0, 0);
        sent(x, 1, -99);
        sent(x, -1, -99);
        x = Check.cellar("hall 4 4;guest g plain at 0 0 way 0 age 0;guest h plain at 1 1 way 0 age 0;"
                + "guest i plain at 0 0 way 0 age 0;");
        sent(x, 0210, 5);
        sent(x, 0012, 5);
        sent(x, 0211, -99);
        sent(x, 0213, -99);
        sent(x, 0, -99);
        sent(x, 010, -99);
        sent(x, 01210, -99);
        sent(x, 0210 + (1 << 30), -99);
        sent(x, 0210 | 1 << 31, -99);
        sent(x, -1, -99);
        sent(x, Integer.MIN_VALUE, -99);
        sent(x, Integer.MAX_VALUE, -99);
    }

    private static void best() {
        DanceWine x = new DanceWine();
        CHECK.due("nobody", x.best(0), 0);
        CHECK.due("no order", x.best(1), 0);
        CHECK.due("another what", x.best(2), -1);
        CHECK.due("another what, below", x.best(-1), -1);
        x = Check.cellar("hall 4 4;carriage 3 3;guest a plain at 0 0 way 0 age 0;guest b plain at 0 0 way 0 age 0;"
                + "guest c plain at 0 0 way 0 age 0;guest d plain at 0 0 way 0 age 0;guest e plain at 0 0 way 0 age 0;"
                + "guest f plain at 0 0 way 0 age 0;");
        CHECK.due("none gone", x.best(0), 0);
        CHECK.due("the first order", x.best(1), 0543210);
        x = Check.cellar("hall 4 4;guest a plain at 0 0 way 0 age 0;guest b plain at 0 0 way 0 age 0;");
        CHECK.due("all are there", x.best(0), 2);
        CHECK.due("in the first order", x.best(1), 010);
    }

    private static void bestOrders() {
        // a queue of six: only the foremost first lets all go
        DanceWine x = Check.cellar("hall 8 2;carriage 7 0;dance on ahead;wine w glasses 18 of on 3;"
                + "guest a plain at 1 0 way 1 age 0;guest b plain at 2 0 way 1 age 0;guest c plain at 3 0 way 1 age 0;"
                + "guest d plain at 4 0 way 1 age 0;guest e plain at 5 0 way 1 age 0;guest f plain at 6 0 way 1 age 0;");
        for (int g = 0; g < 6; g++) {
            for (int n = 0; n < 3; n++) {
                CHECK.due("pour", x.pour(g, 0), true);
            }
        }
        CHECK.due("all", x.best(0), 6);
        CHECK.due("from the last", x.best(1), 0012345);
        x.water(0);
        x.water(0);
        CHECK.due("a cannot come", x.best(0), 5);
        CHECK.due("the first order for it", x.best(1), 0123450);
        x.undo();
        CHECK.due("a can again", x.best(0), 6);
        x.water(5);
        x.water(5);
        x.water(5);
        CHECK.due("f stands in the way", x.best(0), 0);
        CHECK.due("the first order", x.best(1), 0543210);
    }

    private static void served() {
        DanceWine x = Check.cellar("hall 8 8;dance a ahead;dance l left;wine one glasses 0 of a 1;wine turn glasses 1 of l 2;"
                + "guest g plain at 3 3 way 0 age 0;");
        CHECK.due("the empty row, and about twice", x.served(0, 3, 3, 0), 2);
        rowIs(x, 3, 3, 0, 0);
        rowIs(x, 3, 3, 0, 1, 1, 1);
        CHECK.due("ahead and about", x.served(0, 3, 4, 2), 1);
        rowIs(x, 3, 4, 2, 0, 0, 1);
        CHECK.due("no second", x.row(0, 3, 4, 2, 1, -1), -1);
        CHECK.due("three of one", x.served(0, 3, 6, 0), 1);
        rowIs(x, 3, 6, 0, 0, 0, 0, 0);
        CHECK.due("ahead", x.served(0, 3, 4, 0), 3);
        rowIs(x, 3, 4, 0, 0, 0);
        rowIs(x, 3, 4, 0, 1, 0, 1, 1);
        rowIs(x, 3, 4, 0, 2, 1, 1, 0);
        CHECK.due("by none", x.served(0, 0, 0, 0), 0);
        CHECK.due("no row", x.row(0, 0, 0, 0, 0, -1), -1);
        int[][] wrong = {{1, 3, 3, 0}, {-1, 3, 3, 0}, {0, 8, 3, 0}, {0, -1, 3, 0}, {0, 3, 8, 0}, {0, 3, -1, 0},
            {0, 3, 3, 4}, {0, 3, 3, -1}};
        for (int[] w : wrong) {
            CHECK.due("served wrong", x.served(w[0], w[1], w[2], w[3]), -1);
            CHECK.due("row wrong", x.row(w[0], w[1], w[2], w[3], 0, -1), -1);
        }
        CHECK.due("i below", x.row(0, 3, 3, 0, -1, -1), -1);
        CHECK.due("i beyond", x.row(0, 3, 3, 0, 2, -1), -1);
        CHECK.due("i far beyond", x.row(0, 3, 3, 0, Integer.MAX_VALUE, -1), -1);
        CHECK.due("at below", x.row(0, 3, 3, 0, 1, -2), -1);
        x.pour(0, 1);
        CHECK.due("as if nothing was drunk", x.served(0, 3, 6, 0), 1);
        x = Check.cellar("hall 8 8;guest g plain at 3 3 way 0 age 0;pillar 1 1;");
        CHECK.due("no wine", x.served(0, 3, 3, 0), 1);
        CHECK.due("no wine, elsewhere", x.served(0, 3, 4, 0), 0);
        CHECK.due("a pillar", x.served(0, 1, 1, 0), 0);
    }

    private static void rowIs(DanceWine x, int cx, int cy, int way, int i, int... wines) {
        String of = "row(0, " + cx + ", " + cy + ", " + way + ", " + i + ", ";
        CHECK.due(of + "-1)", x.row(0, cx, cy, way, i, -1), wines.length);
        for (int at = 0; at < wines.length; at++) {
            CHECK.due(of + at + ")", x.row(0, cx, cy, way, i, at), wines[at]);
        }
        CHECK.due(of + "beyond)", x.row(0, cx, cy, way, i, wines.length), -1);
        CHECK.due(of + "max)", x.row(0, cx, cy, way, i, Integer.MAX_VALUE), -1);
    }

    private static void servedKinds() {
        String text = "hall 8 8;dance a ahead;dance l left;wine one glasses 0 of a 1;wine turn glasses 1 of l 1;";
        DanceWine x = Check.cellar(text + "guest o old at 3 3 way 0 age 0;");
        CHECK.due("old", x.served(0, 2, 3, 3), 1);
        rowIs(x, 2, 3, 3, 0, 0, 1);
        x = Check.cellar(text + "guest w waiter at 3 3 way 0 age 0;");
        CHECK.due("all rows of a waiter", x.served(0, 3, 3, 0), 1 + 2 + 4 + 8);
        rowIs(x, 3, 3, 0, 14, 1, 1, 1);
        x = Check.cellar(text + "guest g plain at 3 3 way 0 age 0;stagger drunk=2 or glass=2;");
        CHECK.due("rows of two are lost, and third glasses", x.served(0, 3, 3, 0), 1 + 4);
        CHECK.due("two ahead of three", x.served(0, 3, 5, 0), 2);
        rowIs(x, 3, 5, 0, 1, 0, 0, 1);
        StringBuilder six = new StringBuilder("hall 2 2;dance r rest;guest g plain at 1 1 way 1 age 0;");
        for (char c = 'a'; c < 'g'; c++) {
            six.append("wine w").append(c).append(" glasses 0 of r 1;");
        }
        x = Check.cellar(six.toString());
        CHECK.due("six wines", x.served(0, 1, 1, 1), 259);
        rowIs(x, 1, 1, 1, 258, 5, 5, 5);
        rowIs(x, 1, 1, 1, 43, 0, 0, 0);
        rowIs(x, 1, 1, 1, 42, 5, 5);
        rowIs(x, 1, 1, 1, 44, 0, 0, 1);
    }
}
