/** Boundary cases of promises 14 (send) and 15 (best). Orders are written in octal: the first guest is the last digit. */
final class SendCases extends Cases {
    private static String queue(int guests) {
        StringBuilder t = new StringBuilder("hall 8 2;carriage 7 0;dance on ahead;wine w glasses 36 of on 3;");
        for (int g = 0; g < guests; g++) {
            t.append("guest g").append((char) ('a' + g)).append(" plain at ").append(7 - guests + g)
                    .append(" 0 way 1 age 0;");
        }
        return t.toString();
    }

    private static void sent(DanceWine x, int order, int want) {
        due("send(0" + Integer.toOctalString(order) + ")", send(x, order), want);
    }

    // ---- promise 14

    @Case(promise = 14, says = "an order of all GUESTS: of none, of one")
    static void fewGuests() {
        DanceWine x = new DanceWine();
        sent(x, 0, 0);
        sent(x, 1, THROWN);
        x = cellar("hall 2 2;guest g plain at 0 0 way 0 age 0;");
        sent(x, 0, 1);
        sent(x, 1, THROWN);
        sent(x, 010, THROWN);
        x = cellar("hall 2 2;guest g plain at 1 0 way 0 age 0;");
        sent(x, 0, 0);
    }

    @Case(promise = 14, says = "each once: one twice, one missing")
    static void eachOnce() {
        DanceWine x = cellar(queue(3));
        sent(x, 0210, 0);
        sent(x, 0012, 0);
        int[] wrong = {0, 0211, 0110, 0222, 0010, 0001, 02, 020, 0200};
        for (int order : wrong) {
            sent(x, order, THROWN);
        }
    }

    @Case(promise = 14, says = "digits to the base of 8: one of no GUEST")
    static void noSuchDigit() {
        DanceWine x = cellar(queue(3));
        int[] wrong = {0213, 0310, 0320, 0217, 0710, 0170};
        for (int order : wrong) {
            sent(x, order, THROWN);
        }
    }

    @Case(promise = 14, says = "NoSuchElementException: others: a digit too many, below 0")
    static void tooManyDigits() {
        DanceWine x = cellar(queue(3));
        int[] wrong = {01210, 03210, 010210, 0210 + (1 << 9), 0210 + (1 << 30), 0210 | MIN, -1, MIN, MAX, -0210};
        for (int order : wrong) {
            sent(x, order, THROWN);
        }
        x = cellar(queue(6));
        sent(x, 0543210, 0);
        sent(x, 01543210, THROWN);
        sent(x, 06543210, THROWN);
        sent(x, 0543210 + (1 << 18), THROWN);
        sent(x, 0543210 | MIN, THROWN);
    }

    @Case(promise = 14, says = "NoSuchElementException: nothing changes")
    static void thrownChangesNothing() {
        DanceWine x = cellar(queue(3));
        pour(x, 0, 0);
        String before = state(x);
        sent(x, 0, THROWN);
        due("state", state(x), before);
    }

    @Case(promise = 14, says = "the first GUEST the lowest digit")
    static void firstIsLowest() {
        DanceWine x = cellar(queue(3));
        for (int g = 0; g < 3; g++) {
            pour(x, g, 0);
        }
        // the foremost first, then the next
        sent(x, 0012, 7);
        sent(x, 0210, 4);
        sent(x, 0120, 6);
        sent(x, 0102, 6);
    }

    @Case(promise = 14, says = "who is gone, as bits: all six")
    static void allSixGone() {
        DanceWine x = cellar(queue(6));
        for (int g = 0; g < 6; g++) {
            pour(x, g, 0, 0);
        }
        sent(x, 0012345, 63);
        sent(x, 0543210, 32);
    }

    @Case(promise = 14, says = "in the carriage's CELL at its end: told there, without a STEP; a waiter, too")
    static void toldThere() {
        DanceWine x = cellar("hall 4 4;carriage 1 1;guest g plain at 1 1 way 0 age 0;guest h waiter at 1 1 way 0 age 0;"
                + "guest i plain at 1 2 way 0 age 0;");
        sent(x, 0210, 3);
    }

    @Case(promise = 14, says = "at its end: one who comes through the carriage's CELL and goes on is not gone")
    static void through() {
        DanceWine x = cellar("hall 5 2;carriage 2 0;dance a ahead;wine w glasses 9 of a 1;"
                + "guest g plain at 0 0 way 1 age 0;");
        int[] gone = {0, 0, 1, 0, 0};
        for (int n = 0; n < 5; n++) {
            sent(x, 0, gone[n]);
            pour(x, 0, 0);
        }
    }

    @Case(promise = 14, says = "all others stand where they were told ahead of theirs: on the way, in the carriage's CELL, too")
    static void standsAhead() {
        DanceWine x = cellar("hall 5 2;carriage 2 0;dance a ahead;wine w glasses 9 of a 2;"
                + "guest g plain at 0 0 way 1 age 0;guest h waiter at 2 0 way 1 age 0;");
        pour(x, 0, 0);
        sent(x, 010, 2);
        sent(x, 001, 3);
    }

    @Case(promise = 14, says = "all others stand where they are then: behind their own WALK; a CELL that is left is free")
    static void standsBehind() {
        // h comes from 1, 1 down to 1, 0, where he is in g's way
        DanceWine x = cellar("hall 5 2;carriage 2 0;dance a ahead;wine w glasses 9 of a 2;"
                + "guest g plain at 0 0 way 1 age 0;guest h plain at 1 1 way 2 age 0;");
        pour(x, 0, 0);
        pour(x, 1, 0);
        sent(x, 010, 1);
        sent(x, 001, 0);
        // h leaves 1, 0 upwards
        x = cellar("hall 5 2;carriage 2 0;dance a ahead;wine w glasses 9 of a 2;"
                + "guest g plain at 0 0 way 1 age 0;guest h plain at 1 0 way 0 age 0;");
        pour(x, 0, 0);
        pour(x, 1, 0);
        sent(x, 010, 0);
        sent(x, 001, 1);
    }

    @Case(promise = 14, says = "nobody comes into their CELLS (one stays): a hop over one, not onto one")
    static void hopOverOne() {
        String t = "hall 5 2;carriage 2 0;dance b hop;wine w glasses 9 of b 1;guest g plain at 0 0 way 1 age 0;";
        DanceWine x = cellar(t + "guest h waiter at 1 0 way 0 age 0;");
        pour(x, 0, 0);
        sent(x, 010, 1);
        x = cellar(t + "guest h waiter at 2 0 way 0 age 0;");
        pour(x, 0, 0);
        sent(x, 010, 2);
    }

    @Case(promise = 14, says = "gone: they stand nowhere")
    static void goneIsGone() {
        DanceWine x = cellar("hall 5 2;carriage 2 0;dance a ahead;wine w glasses 9 of a 1;wine v glasses 9 of a 3;"
                + "guest g plain at 1 0 way 1 age 0;guest h plain at 1 1 way 1 age 0;guest i plain at 0 0 way 1 age 0;");
        pour(x, 0, 0);
        pour(x, 2, 1);
        // i walks through the carriage's cell to 3, 0: whoever is gone is not in the way
        sent(x, 0210, 1);
        pour(x, 1, 0);
        sent(x, 0210, 1);
    }

    @Case(promise = 14, says = "two told in one CELL: one may leave it, and can't come into it again while the other is there")
    static void twoInOneCell() {
        DanceWine x = cellar("hall 5 2;carriage 0 0;dance a ahead;dance t left left;wine w glasses 9 of a 1 t 1;"
                + "guest g plain at 0 0 way 1 age 0;guest h waiter at 0 0 way 0 age 0;");
        pour(x, 0, 0, 0);
        // there and back
        sent(x, 010, 2);
        sent(x, 001, 3);
    }

    @Case(promise = 14, says = "the CELL 0, 0 without a line, a pillar there: nobody is gone")
    static void carriageInPillar() {
        DanceWine x = cellar("hall 5 2;pillar 0 0;dance a ahead;wine w glasses 9 of a 4;guest g plain at 2 0 way 3 age 0;");
        pour(x, 0, 0);
        sent(x, 0, 0);
        due("best", x.best(0), 0);
    }

    @Case(promise = 14, says = "each takes its WALK: the law's LOST STEPS, too")
    static void lostOnes() {
        DanceWine x = cellar("hall 5 2;carriage 2 0;dance a ahead;wine w glasses 9 of a 3;guest g plain at 0 0 way 1 age 0;"
                + "stagger step=1;");
        pour(x, 0, 0);
        sent(x, 0, 1);
    }

    // ---- promise 15

    @Case(promise = 15, says = "NONE: another what")
    static void bestWhat() {
        DanceWine x = cellar(queue(2));
        int[] none = {-1, 2, MIN, MAX};
        for (int what : none) {
            due("best(" + what + ")", x.best(what), -1);
        }
    }

    @Case(promise = 15, says = "BEST of nobody, of one")
    static void bestOfFew() {
        DanceWine x = cellar("hall 4 4;");
        due("nobody", x.best(0), 0);
        due("its order", x.best(1), 0);
        x = cellar("hall 4 4;guest g plain at 0 0 way 0 age 0;");
        due("one", x.best(0), 1);
        due("its order", x.best(1), 0);
    }

    @Case(promise = 15, says = "of equal ones the first: none is gone, all are gone, six of them")
    static void bestEqual() {
        DanceWine x = cellar(queue(6));
        due("none", x.best(0), 0);
        due("its order", x.best(1), 0543210);
        x = cellar(queue(6).replaceAll("at \\d 0", "at 7 0"));
        due("all", x.best(0), 6);
        due("its order", x.best(1), 0543210);
    }

    @Case(promise = 15, says = "in which most are gone: the last of all 720 orders")
    static void bestLast() {
        DanceWine x = cellar(queue(6));
        for (int g = 0; g < 6; g++) {
            pour(x, g, 0, 0);
        }
        due("all", x.best(0), 6);
        due("its order", x.best(1), 0012345);
    }

    @Case(promise = 15, says = "of equal ones the first: by the first GUEST, not the least number")
    static void bestFirst() {
        // h must go ahead of g; i is by himself
        DanceWine x = cellar("hall 8 2;carriage 7 0;dance on ahead;wine w glasses 36 of on 3;"
                + "guest g plain at 5 0 way 1 age 0;guest h plain at 6 0 way 1 age 0;guest i plain at 0 1 way 1 age 0;");
        pour(x, 0, 0);
        pour(x, 1, 0);
        due("two", x.best(0), 2);
        due("h, g, i", x.best(1), 0201);
    }

    @Case(promise = 15, says = "BEST follows what is drunk: poured, water, undone, gone back to")
    static void bestAnew() {
        DanceWine x = cellar(queue(2));
        due("none", x.best(0), 0);
        x.mark(0, false);
        pour(x, 0, 0);
        pour(x, 1, 0);
        due("both", x.best(0), 2);
        due("order", x.best(1), 001);
        x.water(0);
        due("one", x.best(0), 1);
        due("order", x.best(1), 010);
        x.undo();
        due("both again", x.best(0), 2);
        x.mark(0, true);
        due("none", x.best(0), 0);
    }

    @Case(promise = 15, says = "BEST asks only: an order that was sent ahead changes nothing")
    static void bestBehindSend() {
        DanceWine x = cellar(queue(3));
        for (int g = 0; g < 3; g++) {
            pour(x, g, 0);
        }
        due("best", x.best(0), 3);
        sent(x, 0210, 4);
        due("best", x.best(0), 3);
        due("order", x.best(1), 0012);
        sent(x, 0012, 7);
    }

    @Case(promise = 14, says = "all others stand: the GUEST 0 in the way of another, told there or come there")
    static void guestNoughtInTheWay() {
        DanceWine x = cellar("hall 5 2;carriage 3 0;dance a ahead;wine w glasses 9 of a 2;"
                + "guest g plain at 2 0 way 1 age 0;guest h plain at 1 0 way 1 age 0;");
        pour(x, 1, 0);
        sent(x, 001, 0);
        sent(x, 010, 0);
        x.water(1);
        pour(x, 0, 0);
        sent(x, 010, 0);
        x.water(0);
        due("no one", x.best(0), 0);
        x = cellar("hall 5 2;carriage 3 0;dance a ahead;wine w glasses 9 of a 2;wine v glasses 9 of a 1;"
                + "guest g plain at 2 1 way 2 age 0;guest h plain at 1 0 way 1 age 0;");
        pour(x, 0, 1);
        pour(x, 1, 0);
        sent(x, 010, 0);
        sent(x, 001, 2);
    }

    @Case(promise = 14, says = "one stays, and goes on with the next STEP: blocked once, gone at the end")
    static void blockedAndOn() {
        // blocked by h in the first step, then right and ahead
        DanceWine x = cellar("hall 5 5;carriage 1 0;dance a ahead right ahead;wine w glasses 9 of a 1;"
                + "guest g plain at 0 0 way 0 age 0;guest h waiter at 0 1 way 0 age 0;");
        pour(x, 0, 0);
        due("by itself it ends elsewhere", x.walk(0, 0), 9);
        sent(x, 010, 1);
        sent(x, 001, 1);
        due("best", x.best(0), 1);
        due("order", x.best(1), 010);
    }

    @Case(promise = 14, says = "one stays: where one who was blocked stands then, others can't come")
    static void blockedStands() {
        // g is blocked by i and stays at 1, 1, in h's way
        String t = "hall 5 5;carriage 3 1;dance a ahead;wine w glasses 9 of a 3;guest g plain at 1 1 way 0 age 0;"
                + "guest h plain at 0 1 way 1 age 0;";
        DanceWine x = cellar(t + "guest i waiter at 1 2 way 0 age 0;");
        pour(x, 0, 0);
        pour(x, 1, 0);
        sent(x, 0210, 0);
        x = cellar(t + "guest i waiter at 4 4 way 0 age 0;");
        pour(x, 0, 0);
        pour(x, 1, 0);
        sent(x, 0210, 2);
        sent(x, 0201, 0);
    }

    @Case(promise = 14, says = "each takes its WALK: 576 STEPS with another in the way; fewer again behind water")
    static void longestWalk() {
        String on = " ahead ahead ahead ahead ahead ahead ahead ahead;";
        DanceWine x = cellar("hall 8 2;carriage 5 0;dance a" + on + "dance b" + on + "dance c" + on
                + "dance d ahead;wine w glasses 9 of a 4 b 4 c 4;wine v glasses 9 of d 2;"
                + "guest g plain at 3 0 way 1 age 0;guest h waiter at 6 0 way 0 age 0;");
        pour(x, 0, 0, 0, 0, 0, 0, 0);
        sent(x, 010, 1);
        // i is in g's way, so g stays and turns; ahead is the second glass
        x = cellar("hall 8 2;carriage 3 1;dance d ahead right;dance e ahead;wine w glasses 9 of d 1;wine v glasses 9 of e 1;"
                + "guest g plain at 3 1 way 1 age 0;guest i waiter at 4 1 way 0 age 0;");
        pour(x, 0, 0, 1);
        due("by itself", x.walk(0, 0), 4);
        sent(x, 010, 0);
        x.water(0);
        sent(x, 010, 1);
    }

    @Case(promise = 15, says = "BEST: each order is tried from where all were told")
    static void bestEachFromHome() {
        // g walks into h's way and stays there: h first
        DanceWine x = cellar("hall 5 5;carriage 3 0;dance a ahead;wine w glasses 9 of a 1;wine v glasses 9 of a 3;"
                + "guest g plain at 2 1 way 2 age 0;guest h plain at 0 0 way 1 age 0;");
        pour(x, 0, 0);
        pour(x, 1, 1);
        due("one", x.best(0), 1);
        due("h, g", x.best(1), 001);
        sent(x, 010, 0);
        sent(x, 001, 2);
    }

    @Case(promise = 15, says = "BEST: who would be gone stands nowhere; in the next order he stands where he was told")
    static void bestGoneComesBack() {
        // g is gone first and h can't pass f; only f, h, g lets all but f go
        DanceWine x = cellar("hall 8 2;carriage 4 0;dance a ahead;wine w glasses 9 of a 1;wine v glasses 9 of a 3;"
                + "guest g plain at 3 0 way 1 age 0;guest h plain at 1 0 way 1 age 0;guest f plain at 2 0 way 0 age 0;");
        pour(x, 0, 0);
        pour(x, 1, 1);
        pour(x, 2, 0);
        due("two", x.best(0), 2);
        due("g, f, h", x.best(1), 0120);
        sent(x, 0120, 3);
    }
}
