/** Boundary cases of promises 21 (see), 22 (read) and 23 (dance). */
final class ReadCases extends Cases {
    private static final String T = "hall 5 4;pillar 1 1;guest p plain at 0 0 way 0 age 0;"
            + "guest q plain at 4 3 way 0 age 0;";

    // ---- promise 21

    @Case(promise = 21, says = "false: others: no such GUEST, with a CELL or NONE")
    static void seeNoGuest() {
        DanceWine x = cellar(T);
        int[] none = {-1, 2, 6, MIN, MAX};
        for (int g : none) {
            due("see(" + g + ", 0, 0)", x.see(g, 0, 0), false);
            due("see(" + g + ", -1, 0)", x.see(g, -1, 0), false);
        }
        due("seen", x.count(6), 0);
    }

    @Case(promise = 21, says = "false: others: no CELL of the hall")
    static void seeNoCell() {
        DanceWine x = cellar(T);
        int[] noX = {-2, 5, 8, MIN, MAX};
        for (int cx : noX) {
            due("see(0, " + cx + ", 0)", x.see(0, cx, 0), false);
        }
        int[] noY = {-1, 4, 8, MIN, MAX};
        for (int cy : noY) {
            due("see(0, 0, " + cy + ")", x.see(0, 0, cy), false);
        }
        due("seen", x.count(6), 0);
    }

    @Case(promise = 21, says = "SEEN: in each corner of the hall: true")
    static void seeCorners() {
        DanceWine x = cellar(T);
        due("0, 0", x.see(0, 0, 0), true);
        due("4, 0", x.see(0, 4, 0), true);
        due("0, 3", x.see(0, 0, 3), true);
        due("4, 3", x.see(0, 4, 3), true);
        due("one is seen", x.count(6), 1);
    }

    @Case(promise = 21, says = "false: what was SEEN stays")
    static void refusedSee() {
        DanceWine x = cellar(T);
        x.see(0, 0, 1);
        String before = state(x);
        due("beyond", x.see(0, 5, 0), false);
        due("beyond", x.see(0, 0, 4), false);
        due("below", x.see(0, -2, 0), false);
        due("nobody", x.see(2, -1, 0), false);
        due("nothing changed", state(x), before);
    }

    @Case(promise = 21, says = "x NONE: not any more: whatever y is, whether it was SEEN or not: true")
    static void seeNoMore() {
        DanceWine x = cellar(T);
        due("it was not", x.see(0, -1, 0), true);
        int[] ys = {0, -1, 4, MIN, MAX};
        for (int y : ys) {
            x.see(0, 0, 1);
            due("seen", x.count(6), 1);
            due("see(0, -1, " + y + ")", x.see(0, -1, y), true);
            due("not any more", x.count(6), 0);
        }
        due("read", x.read(1), -1);
    }

    @Case(promise = 21, says = "not any more: that GUEST alone")
    static void seeNoMoreOne() {
        DanceWine x = cellar(T);
        x.see(0, 0, 1);
        x.see(1, 4, 3);
        due("q no more", x.see(1, -1, 0), true);
        due("one", x.count(6), 1);
        due("p still: ahead", x.dance(1, 0), 0);
        due("alone", x.read(1), 1);
    }

    @Case(promise = 21, says = "of a GUEST in which CELL it came out: the newer one holds")
    static void seeAnew() {
        DanceWine x = cellar(T);
        x.see(0, 0, 1);
        x.see(0, 0, 2);
        due("how many", x.read(1), 1);
        due("hop", x.dance(1, 0), 1);
    }

    // ---- promise 22

    @Case(promise = 22, says = "so many STEPS (1 to 5); NONE: others")
    static void readSteps() {
        DanceWine x = cellar("hall 2 2;guest q waiter at 0 0 way 0 age 0;");
        x.see(0, 0, 0);
        int[] none = {0, 6, -1, 7, MIN, MAX};
        for (int steps : none) {
            due("read(" + steps + ")", x.read(steps), -1);
        }
        int many = 1;
        for (int steps = 1; steps <= 5; steps++) {
            many *= 5;
            due("read(" + steps + ")", x.read(steps), many);
        }
    }

    @Case(promise = 22, says = "NONE: nobody is SEEN")
    static void readNobody() {
        DanceWine x = cellar(T);
        for (int steps = 0; steps <= 6; steps++) {
            due("read(" + steps + ")", x.read(steps), -1);
            due("dance(" + steps + ", 0)", x.dance(steps, 0), -1);
        }
    }

    @Case(promise = 22, says = "how many rows: none, for a CELL that can't be reached")
    static void readNone() {
        DanceWine x = cellar(T);
        x.see(0, 4, 3);
        due("too far", x.read(1), 0);
        x.see(0, 1, 1);
        due("a pillar", x.read(5), 0);
    }

    @Case(promise = 22, says = "by which each GUEST SEEN comes there: both, not one of them")
    static void readBoth() {
        DanceWine x = cellar(T);
        x.see(0, 0, 1);
        due("p alone: ahead", x.read(1), 1);
        x.see(1, 4, 3);
        due("q stays at the end", x.read(1), 1);
        x.see(1, 3, 3);
        due("q elsewhere", x.read(1), 0);
        x.see(0, -1, 0);
        due("q alone", x.read(1), 0);
        due("q alone: left ahead", x.read(2), 1);
    }

    @Case(promise = 22, says = "none LOST: whatever the law, whatever is drunk")
    static void readNoneLost() {
        DanceWine x = cellar("hall 5 4;dance d left;wine w glasses 9 of d 1;guest p plain at 0 0 way 0 age 0;stagger 1;");
        pour(x, 0, 0);
        x.see(0, 0, 1);
        due("ahead", x.read(1), 1);
        due("it", x.dance(1, 0), 0);
    }

    @Case(promise = 22, says = "comes there: from where it was told, by itself, whatever its way then")
    static void readByItself() {
        DanceWine x = cellar("hall 5 4;guest p plain at 0 0 way 0 age 0;guest q waiter at 0 1 way 0 age 0;");
        x.see(0, 0, 1);
        due("ahead, into q", x.read(1), 1);
        x.see(0, 0, 0);
        due("left, right, rest", x.read(1), 3);
    }

    @Case(promise = 22, says = "each by its KIND: lame, uncle, a waiter who takes none")
    static void readKinds() {
        DanceWine x = cellar("hall 8 8;guest l lame at 3 3 way 0 age 0;guest u uncle at 3 3 way 0 age 0;"
                + "guest w waiter at 3 3 way 0 age 0;");
        x.see(0, 3, 4);
        due("lame: ahead, hop", x.read(1), 2);
        x.see(0, -1, 0);
        x.see(1, 4, 3);
        due("uncle", x.read(2), 1);
        due("left ahead", x.dance(2, 0), 10);
        x.see(1, -1, 0);
        x.see(2, 3, 3);
        due("waiter: all", x.read(2), 25);
        x.see(2, 3, 4);
        due("waiter: none", x.read(2), 0);
    }

    @Case(promise = 22, says = "where a pillar or the hall's end is, one stays")
    static void readEnds() {
        DanceWine x = cellar("hall 2 2;pillar 0 1;guest p plain at 0 0 way 0 age 0;");
        x.see(0, 0, 0);
        due("all five", x.read(1), 5);
        x.see(0, 1, 0);
        due("right ahead", x.read(2), 1);
        due("it", x.dance(2, 0), 15);
    }

    // ---- promise 23

    @Case(promise = 23, says = "NONE: none such: an i below and beyond")
    static void danceNoneSuch() {
        DanceWine x = cellar("hall 5 4;guest p plain at 0 0 way 0 age 0;");
        x.see(0, 0, 2);
        // ahead ahead; hop, and again beyond the end; hop left, hop right, hop rest; rest hop
        int[] want = {0, 6, 7, 8, 9, 21};
        for (int i = 0; i < want.length; i++) {
            due("dance(2, " + i + ")", x.dance(2, i), want[i]);
        }
        int[] none = {-1, 6, MIN, MAX};
        for (int i : none) {
            due("dance(2, " + i + ")", x.dance(2, i), -1);
        }
        x.see(0, 4, 3);
        due("by none", x.dance(2, 0), -1);
    }

    @Case(promise = 23, says = "NONE: likewise: so many STEPS are others")
    static void danceSteps() {
        DanceWine x = cellar("hall 2 2;guest q waiter at 0 0 way 0 age 0;");
        x.see(0, 0, 0);
        int[] none = {0, 6, -1, MIN, MAX};
        for (int steps : none) {
            due("dance(" + steps + ", 0)", x.dance(steps, 0), -1);
        }
    }

    @Case(promise = 23, says = "NONE: likewise: nobody is SEEN, not any more, too")
    static void danceNobody() {
        DanceWine x = cellar(T);
        due("at first", x.dance(1, 0), -1);
        x.see(0, 0, 0);
        due("seen", x.dance(1, 0), 2);
        x.see(0, -1, 0);
        due("not any more", x.dance(1, 0), -1);
    }

    @Case(promise = 23, says = "digits to the base of 5, the least first: the first and the last of 1 to 5 STEPS")
    static void danceLast() {
        DanceWine x = cellar("hall 2 2;guest q waiter at 0 0 way 0 age 0;");
        x.see(0, 0, 0);
        int many = 1;
        for (int steps = 1; steps <= 5; steps++) {
            many *= 5;
            due("the first of " + steps, x.dance(steps, 0), 0);
            due("the second of " + steps, x.dance(steps, 1), 1);
            due("the last of " + steps, x.dance(steps, many - 1), many - 1);
            due("beyond " + steps, x.dance(steps, many), -1);
        }
    }

    @Case(promise = 23, says = "ahead 0, hop 1, left 2, right 3, rest 4; the first STEP the highest")
    static void danceDigits() {
        DanceWine x = cellar("hall 8 8;guest p plain at 3 3 way 0 age 0;");
        x.see(0, 3, 4);
        due("ahead", x.dance(1, 0), 0);
        x.see(0, 3, 5);
        due("hop", x.dance(1, 0), 1);
        x.see(0, 3, 3);
        due("left", x.dance(1, 0), 2);
        due("right", x.dance(1, 1), 3);
        due("rest", x.dance(1, 2), 4);
        x.see(0, 2, 3);
        due("left ahead", x.dance(2, 0), 10);
        due("alone", x.read(2), 1);
        x.see(0, 5, 3);
        due("right hop", x.dance(2, 0), 16);
    }

    @Case(promise = 22, says = "each GUEST SEEN: all six, the last one alone")
    static void readSix() {
        DanceWine x = cellar(CellarCases.full());
        x.see(5, 5, 2);
        due("the last alone", x.read(1), 1);
        due("hop", x.dance(1, 0), 1);
        for (int g = 0; g < 6; g++) {
            due("see", x.see(g, g, 1), true);
        }
        due("all", x.read(1), 1);
        due("ahead", x.dance(1, 0), 0);
        x.see(5, 5, 2);
        due("but the last", x.read(1), 0);
        x.see(5, 5, 1);
        x.see(0, 0, 0);
        due("but the first", x.read(1), 0);
        due("told anew with fewer", Check.told(x, "hall 8 8;guest g plain at 0 0 way 0 age 0;"), 0);
        x.see(0, 0, 1);
        due("one", x.read(1), 1);
    }

    @Case(promise = 22, says = "asked in turn: 5 STEPS, then 1, then 5 again")
    static void readInTurn() {
        DanceWine x = cellar(T);
        x.see(0, 0, 0);
        int five = x.read(5);
        due("the first", x.dance(5, 0) < x.dance(5, 1), true);
        due("one", x.read(1), 3);
        due("five again", x.read(5), five);
        due("beyond", x.dance(5, five), -1);
        due("the last", x.dance(5, five - 1), 3124);
    }
}
