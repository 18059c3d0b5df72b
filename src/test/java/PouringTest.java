/** Promises 4 (step), 5 (wine), 6 (guest), 7 (glass), 8 (pour), 9 (water), 10 (undo) and 24 (mark). */
public final class PouringTest {
    private static final Check CHECK = new Check("PouringTest");
    private static final String TEXT = "hall 8 6;dance a ahead hop left;dance b right rest;"
            + "wine w glasses 7 of b 2 a 1;wine v glasses 1 of a 4;wine u glasses 0 of b 1;"
            + "guest p plain at 7 5 way 3 age 1;guest q waiter at 0 0 way 0 age 99;guest r lame at 3 2 way 1 age 50;"
            + "guest s uncle at 3 2 way 2 age 0;guest t old at 1 0 way 0 age 7;";

    public static void main(String[] args) {
        steps();
        guestFacts();
        pouring();
        watering();
        undoing();
        undoTwenty();
        marks();
        CHECK.end();
    }

    private static void steps() {
        DanceWine x = Check.cellar(TEXT);
        int[] w = {3, 4, 3, 4, 0, 1, 2};
        for (int i = 0; i < w.length; i++) {
            CHECK.due("step(0, " + i + ")", x.step(0, i), w[i]);
        }
        CHECK.due("step(0, 7)", x.step(0, 7), -1);
        CHECK.due("step(0, -1)", x.step(0, -1), -1);
        CHECK.due("step(1, 11)", x.step(1, 11), 2);
        CHECK.due("step(1, 12)", x.step(1, 12), -1);
        CHECK.due("step(3, 0)", x.step(3, 0), -1);
        CHECK.due("step(-1, 0)", x.step(-1, 0), -1);
        CHECK.due("step(max, max)", x.step(Integer.MAX_VALUE, Integer.MAX_VALUE), -1);
        CHECK.due("wine(0, 0)", x.wine(0, 0), 7);
        CHECK.due("wine(0, 1)", x.wine(0, 1), 7);
        CHECK.due("wine(1, 0)", x.wine(1, 0), 1);
        CHECK.due("wine(1, 1)", x.wine(1, 1), 12);
        CHECK.due("wine(2, 0)", x.wine(2, 0), 0);
        CHECK.due("wine(0, 2)", x.wine(0, 2), -1);
        CHECK.due("wine(0, -1)", x.wine(0, -1), -1);
        CHECK.due("wine(3, 0)", x.wine(3, 0), -1);
        CHECK.due("wine(-1, 1)", x.wine(-1, 1), -1);

        x = Check.cellar("hall 2 2;dance a ahead ahead ahead ahead ahead ahead ahead ahead;"
                + "dance b hop hop hop hop hop hop hop hop;dance c left left left left left left left rest;"
                + "wine w glasses 9 of a 4 b 4 c 4;guest g plain at 0 0 way 0 age 0;");
        CHECK.due("most steps", x.wine(0, 1), 96);
        CHECK.due("the last", x.step(0, 95), 4);
        CHECK.due("one of b", x.step(0, 32), 1);
        CHECK.due("beyond", x.step(0, 96), -1);
        for (int n = 0; n < 6; n++) {
            x.pour(0, 0);
        }
        CHECK.due("most steps of a guest", x.guest(0, 5), 576);
    }

    private static void guestFacts() {
        DanceWine x = Check.cellar(TEXT);
        int[][] want = {{0, 47, 3, 1, 0, 0}, {1, 0, 0, 99, 0, 0}, {2, 19, 1, 50, 0, 0}, {3, 19, 2, 0, 0, 0},
            {4, 1, 0, 7, 0, 0}};
        for (int g = 0; g < want.length; g++) {
            for (int what = 0; what < 6; what++) {
                CHECK.due("guest(" + g + ", " + what + ")", x.guest(g, what), want[g][what]);
            }
        }
        CHECK.due("guest(0, 6)", x.guest(0, 6), -1);
        CHECK.due("guest(0, -1)", x.guest(0, -1), -1);
        CHECK.due("guest(5, 0)", x.guest(5, 0), -1);
        CHECK.due("guest(-1, 0)", x.guest(-1, 0), -1);
    }

    private static void pouring() {
        DanceWine x = Check.cellar(TEXT);
        CHECK.due("pour(0, 1)", x.pour(0, 1), true);
        CHECK.due("none is left", x.pour(1, 1), false);
        CHECK.due("none was there", x.pour(1, 2), false);
        CHECK.due("no such wine", x.pour(1, 3), false);
        CHECK.due("no such wine, below", x.pour(1, -1), false);
        CHECK.due("no such guest", x.pour(5, 0), false);
        CHECK.due("no such guest, below", x.pour(-1, 0), false);
        for (int n = 1; n < 6; n++) {
            CHECK.due("glass " + n, x.pour(0, 0), true);
        }
        CHECK.due("it has 6", x.pour(0, 0), false);
        CHECK.due("two are left", x.wine(0, 0), 2);
        CHECK.due("left in all", x.count(5), 2);
        CHECK.due("glasses it has", x.guest(0, 4), 6);
        CHECK.due("all its steps", x.guest(0, 5), 12 + 5 * 7);
        CHECK.due("the first", x.glass(0, 0), 1);
        CHECK.due("the last", x.glass(0, 5), 0);
        CHECK.due("beyond", x.glass(0, 6), -1);
        CHECK.due("below", x.glass(0, -1), -1);
        CHECK.due("another guest", x.glass(1, 0), -1);
        CHECK.due("no such guest", x.glass(5, 0), -1);
        CHECK.due("no such guest, below", x.glass(-1, 0), -1);
        CHECK.due("a waiter drinks", x.pour(1, 0), true);
        CHECK.due("and has a glass", x.guest(1, 4), 1);
        CHECK.due("but no step", x.guest(1, 5), 0);
        CHECK.due("what was refused can't be undone", x.count(7), 7);
    }

    private static void watering() {
        DanceWine x = Check.cellar(TEXT);
        CHECK.due("nothing drunk", x.water(4), false);
        CHECK.due("no such guest", x.water(5), false);
        CHECK.due("no such guest, below", x.water(-1), false);
        CHECK.due("nothing to undo", x.count(7), 0);
        x.pour(4, 1);
        x.pour(4, 0);
        CHECK.due("water", x.water(4), true);
        CHECK.due("one is left", x.guest(4, 4), 1);
        CHECK.due("the first one", x.glass(4, 0), 1);
        CHECK.due("not in the bottle again", x.wine(0, 0), 6);
        CHECK.due("water again", x.water(4), true);
        CHECK.due("not any more", x.water(4), false);
        CHECK.due("the bottle is empty", x.pour(4, 1), false);
        CHECK.due("four acts", x.count(7), 4);
    }

    private static void undoing() {
        DanceWine x = Check.cellar(TEXT);
        CHECK.due("nothing", x.undo(), false);
        x.pour(0, 1);
        x.pour(2, 0);
        x.water(0);
        x.pour(0, 0);
        CHECK.due("the last glass", x.undo(), true);
        CHECK.due("is in the bottle again", x.wine(0, 0), 6);
        CHECK.due("and not drunk", x.guest(0, 4), 0);
        CHECK.due("the water", x.undo(), true);
        CHECK.due("is drunk again", x.glass(0, 0), 1);
        CHECK.due("the bottle stays", x.wine(1, 0), 0);
        CHECK.due("all its steps again", x.guest(0, 5), 12);
        CHECK.due("two more", x.count(7), 2);
        CHECK.due("undo", x.undo(), true);
        CHECK.due("wine 0", x.wine(0, 0), 7);
        CHECK.due("undo", x.undo(), true);
        CHECK.due("wine 1", x.wine(1, 0), 1);
        CHECK.due("no more", x.undo(), false);
        x.see(0, 1, 1);
        CHECK.due("what is seen can't be undone", x.undo(), false);
    }

    private static void undoTwenty() {
        DanceWine x = Check.cellar("hall 2 2;dance d ahead;wine w glasses 30 of d 1;guest g plain at 0 0 way 0 age 0;");
        for (int n = 0; n < 12; n++) {
            x.pour(0, 0);
            CHECK.due("at most 20", x.count(7), Math.min(20, 2 * n + 1));
            x.water(0);
        }
        CHECK.due("18 left", x.wine(0, 0), 18);
        for (int n = 0; n < 20; n++) {
            CHECK.due("undo " + n, x.undo(), true);
        }
        CHECK.due("the 21st", x.undo(), false);
        CHECK.due("28 left", x.wine(0, 0), 28);
        CHECK.due("nothing drunk", x.guest(0, 4), 0);
    }

    private static void marks() {
        DanceWine x = Check.cellar(TEXT);
        CHECK.due("nothing is on it", x.mark(0, true), false);
        CHECK.due("none such", x.mark(4, false), false);
        CHECK.due("none such, back", x.mark(4, true), false);
        CHECK.due("none such, below", x.mark(-1, false), false);
        x.pour(0, 1);
        x.see(2, 4, 5);
        CHECK.due("laid", x.mark(3, false), true);
        CHECK.due("can be undone still", x.count(7), 1);
        x.pour(0, 0);
        x.water(0);
        x.water(0);
        x.see(2, -1, 0);
        x.see(1, 0, 0);
        x.see(3, 0, 0);
        CHECK.due("another", x.mark(0, false), true);
        CHECK.due("back", x.mark(3, true), true);
        CHECK.due("the glasses", x.wine(0, 0), 7);
        CHECK.due("what is drunk", x.glass(0, 0), 1);
        CHECK.due("how many", x.guest(0, 4), 1);
        CHECK.due("all its steps", x.guest(0, 5), 12);
        CHECK.due("what is seen", x.count(6), 1);
        CHECK.due("nothing can be undone", x.undo(), false);
        CHECK.due("to the other", x.mark(0, true), true);
        CHECK.due("the glasses", x.wine(0, 0), 6);
        CHECK.due("seen there", x.count(6), 2);
        CHECK.due("nothing drunk", x.guest(0, 4), 0);
        x.pour(0, 0);
        CHECK.due("back once more", x.mark(3, true), true);
        CHECK.due("is as it was", x.glass(0, 0), 1);
        x.water(0);
        CHECK.due("laid over", x.mark(3, false), true);
        x.pour(0, 0);
        CHECK.due("back", x.mark(3, true), true);
        CHECK.due("the newer one", x.guest(0, 4), 0);
        CHECK.due("mark 1 is empty", x.mark(1, true), false);
        CHECK.due("mark 2 is empty", x.mark(2, true), false);
    }
}
