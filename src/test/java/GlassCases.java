/** Boundary cases of promises 4 (step), 5 (wine), 6 (guest), 7 (glass), 8 (pour) and 9 (water). */
final class GlassCases extends Cases {
    private static final String T = "hall 8 6;dance a ahead hop left;dance b right rest;"
            + "wine w glasses 7 of b 2 a 1;wine v glasses 1 of a 4;wine u glasses 0 of b 1;"
            + "guest p plain at 7 5 way 3 age 99;guest q waiter at 0 0 way 0 age 0;";
    // For three guests or wines: beside them on either side, and far off.
    private static final int[] NO_WINES = {-1, 3, -2, 6, MIN, MAX};
    private static final int[] NO_GUESTS = {-1, 2, -2, 6, MIN, MAX};

    // ---- promise 4

    @Case(promise = 4, says = "the i-th STEP: 0 ahead, 1 hop, 2 left, 3 right, 4 rest")
    static void stepNumbers() {
        DanceWine x = cellar("hall 2 2;dance d ahead hop left right rest;wine w glasses 0 of d 1;");
        for (int i = 0; i < 5; i++) {
            due("step(0, " + i + ")", x.step(0, i), i);
        }
    }

    @Case(promise = 4, says = "STEPS of a WINE: of its parts in order the DANCE, so many times")
    static void stepParts() {
        DanceWine x = cellar(T);
        int[] want = {3, 4, 3, 4, 0, 1, 2};
        for (int i = 0; i < want.length; i++) {
            due("step(0, " + i + ")", x.step(0, i), want[i]);
        }
    }

    @Case(promise = 4, says = "NONE: others: an i below and beyond")
    static void stepOthers() {
        DanceWine x = cellar(T);
        int[] none = {-1, 7, MIN, MAX};
        for (int i : none) {
            due("step(0, " + i + ")", x.step(0, i), -1);
        }
        due("the last of wine 1", x.step(1, 11), 2);
        due("beyond wine 1", x.step(1, 12), -1);
        due("the last of wine 2", x.step(2, 1), 4);
        due("beyond wine 2", x.step(2, 2), -1);
    }

    @Case(promise = 4, says = "NONE: others: no such WINE")
    static void stepNoWine() {
        DanceWine x = cellar(T);
        for (int w : NO_WINES) {
            due("step(" + w + ", 0)", x.step(w, 0), -1);
        }
    }

    @Case(promise = 4, says = "the most STEPS of a WINE: 3 parts of 8 STEPS, 4 times: 96; six such wines")
    static void mostSteps() {
        StringBuilder t = new StringBuilder("hall 2 2;dance a ahead ahead ahead ahead ahead ahead ahead hop;"
                + "dance b hop hop hop hop hop hop hop left;dance c left left left left left left left rest;");
        for (char c = 'p'; c < 'v'; c++) {
            t.append("wine ").append(c).append(" glasses 9 of a 4 b 4 c 4;");
        }
        DanceWine x = cellar(t.toString());
        for (int w = 0; w < 6; w++) {
            due("first", x.step(w, 0), 0);
            due("end of a", x.step(w, 31), 1);
            due("end of b", x.step(w, 63), 2);
            due("last", x.step(w, 95), 4);
            due("beyond", x.step(w, 96), -1);
            due("how many", x.wine(w, 1), 96);
        }
    }

    // ---- promise 5

    @Case(promise = 5, says = "0: glasses left: 0 and 99 of them, down to none")
    static void glassesLeft() {
        DanceWine x = cellar("hall 2 2;dance d rest;wine w glasses 0 of d 1;wine v glasses 99 of d 1;wine u glasses 1 of d 1;"
                + "guest g plain at 0 0 way 0 age 0;");
        due("0", x.wine(0, 0), 0);
        due("99", x.wine(1, 0), 99);
        pour(x, 0, 2);
        due("none left", x.wine(2, 0), 0);
        due("refused", x.pour(0, 2), false);
        due("not below 0", x.wine(2, 0), 0);
    }

    @Case(promise = 5, says = "1: how many STEPS: the least is 1")
    static void leastSteps() {
        due("1", cellar("hall 2 2;dance d rest;wine w glasses 0 of d 1;").wine(0, 1), 1);
        due("7", cellar(T).wine(0, 1), 7);
        due("12", cellar(T).wine(1, 1), 12);
    }

    @Case(promise = 5, says = "NONE: others: another what")
    static void wineWhat() {
        DanceWine x = cellar(T);
        int[] none = {-1, 2, 3, MIN, MAX};
        for (int what : none) {
            due("wine(0, " + what + ")", x.wine(0, what), -1);
        }
    }

    @Case(promise = 5, says = "NONE: others: no such WINE")
    static void noWine() {
        DanceWine x = cellar(T);
        for (int w : NO_WINES) {
            due("wine(" + w + ", 0)", x.wine(w, 0), -1);
            due("wine(" + w + ", 1)", x.wine(w, 1), -1);
        }
    }

    // ---- promise 6

    @Case(promise = 6, says = "NONE: others: another what")
    static void guestWhat() {
        DanceWine x = cellar(T);
        int[] none = {-1, 6, 7, MIN, MAX};
        for (int what : none) {
            due("guest(0, " + what + ")", x.guest(0, what), -1);
        }
    }

    @Case(promise = 6, says = "NONE: others: no such GUEST")
    static void noGuest() {
        DanceWine x = cellar(T);
        for (int g : NO_GUESTS) {
            for (int what = 0; what < 6; what++) {
                due("guest(" + g + ", " + what + ")", x.guest(g, what), -1);
            }
        }
    }

    @Case(promise = 6, says = "its CELL as y * 8 + x: the corners of the largest hall and of a narrow one")
    static void guestCell() {
        DanceWine x = cellar("hall 8 8;guest a old at 0 0 way 0 age 0;guest b old at 7 0 way 0 age 0;"
                + "guest c old at 0 7 way 0 age 0;guest d old at 7 7 way 0 age 0;");
        int[] want = {0, 7, 56, 63};
        for (int g = 0; g < 4; g++) {
            due("guest(" + g + ", 1)", x.guest(g, 1), want[g]);
        }
        due("hall 2 3", cellar("hall 2 3;guest a old at 1 2 way 0 age 0;").guest(0, 1), 17);
    }

    @Case(promise = 6, says = "its CELL and way are where it was told, whatever it has drunk")
    static void guestStays() {
        DanceWine x = cellar(T);
        pour(x, 0, 0, 1);
        due("cell", x.guest(0, 1), 47);
        due("way", x.guest(0, 2), 3);
        due("age", x.guest(0, 3), 99);
    }

    @Case(promise = 6, says = "4: glasses it has: 0 to 6; 5: all its STEPS: none, and 6 times 96")
    static void guestGlasses() {
        DanceWine x = cellar("hall 2 2;dance a hop hop hop hop hop hop hop hop;dance b hop hop hop hop hop hop hop hop;"
                + "dance c hop hop hop hop hop hop hop hop;wine w glasses 9 of a 4 b 4 c 4;"
                + "guest g plain at 0 0 way 0 age 0;");
        for (int n = 0; n <= 6; n++) {
            due("glasses " + n, x.guest(0, 4), n);
            due("steps " + n, x.guest(0, 5), 96 * n);
            x.pour(0, 0);
        }
        due("no seventh", x.guest(0, 4), 6);
    }

    @Case(promise = 6, says = "5: all its STEPS: a waiter none at all, a LOST one is a STEP")
    static void guestSteps() {
        DanceWine x = cellar(T + "stagger 1;");
        pour(x, 1, 0, 0);
        due("a waiter's glasses", x.guest(1, 4), 2);
        due("a waiter's steps", x.guest(1, 5), 0);
        pour(x, 0, 0);
        due("lost ones", x.guest(0, 5), 7);
    }

    // ---- promise 7

    @Case(promise = 7, says = "NONE: others: an i below and beyond")
    static void glassOthers() {
        DanceWine x = cellar(T);
        due("nothing drunk", x.glass(0, 0), -1);
        pour(x, 0, 1, 0);
        int[] none = {-1, 2, 6, MIN, MAX};
        for (int i : none) {
            due("glass(0, " + i + ")", x.glass(0, i), -1);
        }
        due("the first", x.glass(0, 0), 1);
        due("the last", x.glass(0, 1), 0);
    }

    @Case(promise = 7, says = "NONE: others: no such GUEST")
    static void glassNoGuest() {
        DanceWine x = cellar(T);
        pour(x, 0, 0);
        pour(x, 1, 0);
        for (int g : NO_GUESTS) {
            due("glass(" + g + ", 0)", x.glass(g, 0), -1);
        }
    }

    @Case(promise = 7, says = "the WINE of the i-th glass: all six, of two GUESTS")
    static void sixGlasses() {
        DanceWine x = cellar("hall 2 2;dance d rest;wine w glasses 6 of d 1;wine v glasses 6 of d 1;"
                + "guest g plain at 0 0 way 0 age 0;guest h waiter at 0 0 way 0 age 0;");
        pour(x, 0, 0, 1, 1, 0, 0, 1);
        pour(x, 1, 1, 0, 0, 1, 1, 0);
        int[] want = {0, 1, 1, 0, 0, 1};
        for (int i = 0; i < 6; i++) {
            due("glass(0, " + i + ")", x.glass(0, i), want[i]);
            due("glass(1, " + i + ")", x.glass(1, i), 1 - want[i]);
        }
        due("beyond", x.glass(0, 6), -1);
    }

    @Case(promise = 7, says = "the WINE of the i-th glass: a forgotten one is none")
    static void forgottenGlass() {
        DanceWine x = cellar(T);
        pour(x, 0, 1, 0);
        x.water(0);
        due("forgotten", x.glass(0, 1), -1);
        due("kept", x.glass(0, 0), 1);
        x.water(0);
        due("both forgotten", x.glass(0, 0), -1);
    }

    // ---- promise 8

    @Case(promise = 8, says = "false: none is left: a bottle of none, the last glass gone")
    static void noneLeft() {
        DanceWine x = cellar(T);
        due("a bottle of none", x.pour(0, 2), false);
        due("the last one", x.pour(0, 1), true);
        String before = state(x);
        due("gone", x.pour(0, 1), false);
        due("for another, too", x.pour(1, 1), false);
        due("nothing changed", state(x), before);
    }

    @Case(promise = 8, says = "false: it has 6: the sixth is poured, the seventh not")
    static void sevenGlasses() {
        DanceWine x = cellar(T);
        pour(x, 0, 0, 0, 0, 0, 0, 0);
        String before = state(x);
        due("the seventh", x.pour(0, 0), false);
        due("of another bottle", x.pour(0, 1), false);
        due("nothing changed", state(x), before);
        due("another guest", x.pour(1, 0), true);
    }

    @Case(promise = 8, says = "false: it has 6: a waiter, too")
    static void sevenForWaiter() {
        DanceWine x = cellar(T);
        pour(x, 1, 0, 0, 0, 0, 0, 0);
        due("the seventh", x.pour(1, 0), false);
    }

    @Case(promise = 8, says = "false: others: no such GUEST, no such WINE")
    static void pourOthers() {
        DanceWine x = cellar(T);
        String before = state(x);
        for (int g : NO_GUESTS) {
            due("pour(" + g + ", 0)", x.pour(g, 0), false);
        }
        for (int w : NO_WINES) {
            due("pour(0, " + w + ")", x.pour(0, w), false);
        }
        due("nothing changed", state(x), before);
    }

    @Case(promise = 8, says = "POURED: a glass behind the others, one less in that bottle alone")
    static void oneLess() {
        DanceWine x = cellar(T);
        pour(x, 0, 0, 1);
        due("bottle 0", x.wine(0, 0), 6);
        due("bottle 1", x.wine(1, 0), 0);
        due("bottle 2", x.wine(2, 0), 0);
        due("behind", x.glass(0, 1), 1);
    }

    @Case(promise = 8, says = "POURED: 99 glasses, not one more")
    static void ninetyNine() {
        DanceWine x = cellar("hall 2 2;dance d rest;wine w glasses 99 of d 1;guest g plain at 0 0 way 0 age 0;");
        for (int n = 0; n < 99; n++) {
            due("glass " + n, x.pour(0, 0), true);
            x.water(0);
        }
        due("the hundredth", x.pour(0, 0), false);
    }

    // ---- promise 9

    @Case(promise = 9, says = "false: it has drunk nothing: at first, behind its last glass")
    static void nothingDrunk() {
        DanceWine x = cellar(T);
        String before = state(x);
        due("at first", x.water(0), false);
        due("nothing changed", state(x), before);
        pour(x, 0, 0);
        due("the one glass", x.water(0), true);
        before = state(x);
        due("no more", x.water(0), false);
        due("nothing changed", state(x), before);
    }

    @Case(promise = 9, says = "false: others: no such GUEST")
    static void waterNoGuest() {
        DanceWine x = cellar(T);
        pour(x, 0, 0);
        pour(x, 1, 0);
        String before = state(x);
        for (int g : NO_GUESTS) {
            due("water(" + g + ")", x.water(g), false);
        }
        due("nothing changed", state(x), before);
    }

    @Case(promise = 9, says = "its last glass is forgotten, and of nobody else")
    static void lastForgotten() {
        DanceWine x = cellar(T);
        pour(x, 1, 0);
        pour(x, 0, 1, 0);
        due("water", x.water(0), true);
        due("one is left", x.guest(0, 4), 1);
        due("the first", x.glass(0, 0), 1);
        due("the other guest", x.guest(1, 4), 1);
        due("steps", x.guest(0, 5), 12);
    }

    @Case(promise = 9, says = "it is not in the bottle again")
    static void notInBottle() {
        DanceWine x = cellar(T);
        pour(x, 0, 1);
        due("water", x.water(0), true);
        due("bottle", x.wine(1, 0), 0);
        due("none to pour", x.pour(0, 1), false);
    }

    @Case(promise = 9, says = "by the glass: six times, then it can have six again")
    static void waterSix() {
        DanceWine x = cellar("hall 2 2;dance d rest;wine w glasses 12 of d 1;guest g plain at 0 0 way 0 age 0;");
        pour(x, 0, 0, 0, 0, 0, 0, 0);
        for (int n = 5; n >= 0; n--) {
            due("water", x.water(0), true);
            due("left", x.guest(0, 4), n);
        }
        due("a seventh", x.water(0), false);
        pour(x, 0, 0, 0, 0, 0, 0, 0);
        due("six again", x.guest(0, 4), 6);
    }
}
