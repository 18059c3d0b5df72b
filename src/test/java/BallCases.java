/** Boundary cases of promise 12 (ball). */
final class BallCases extends Cases {
    private static final String LANE = "hall 8 8;dance a ahead;dance b hop;dance c right;wine w glasses 9 of a 1;"
            + "wine v glasses 9 of b 1;wine u glasses 9 of c 1;wine t glasses 9 of a 3;";

    private static void places(DanceWine x, int hiccup, int seed, int... cells) {
        for (int g = 0; g < cells.length; g++) {
            due("ball(" + hiccup + ", " + seed + ", " + g + ")", x.ball(hiccup, seed, g), cells[g]);
        }
    }

    /** What the document's draws are. */
    private static int[] draws(int seed, int many) {
        int[] all = new int[many];
        java.math.BigInteger g = java.math.BigInteger.valueOf(seed);
        for (int n = 0; n < many; n++) {
            g = g.multiply(java.math.BigInteger.valueOf(1103515245)).add(java.math.BigInteger.valueOf(12345))
                    .mod(java.math.BigInteger.valueOf(2147483648L));
            all[n] = g.divide(java.math.BigInteger.valueOf(65536)).mod(java.math.BigInteger.valueOf(8)).intValue();
        }
        return all;
    }

    @Case(promise = 12, says = "a HICCUP (0 to 8); -2: others")
    static void hiccups() {
        DanceWine x = cellar(LANE + "guest g plain at 0 0 way 0 age 0;");
        pour(x, 0, 0);
        int[] none = {-1, 9, -2, MIN, MAX};
        for (int hiccup : none) {
            due("hiccup " + hiccup, x.ball(hiccup, 0, -1), -2);
            due("hiccup " + hiccup, x.ball(hiccup, 0, 0), -2);
        }
        due("hiccup 0", x.ball(0, 0, 0), 8);
        due("hiccup 8", x.ball(8, 0, 0), 0);
    }

    @Case(promise = 12, says = "a SEED (0 to 9999); -2: others")
    static void seeds() {
        DanceWine x = cellar(LANE + "guest g plain at 0 0 way 0 age 0;");
        pour(x, 0, 0);
        int[] none = {-1, 10000, MIN, MAX};
        for (int seed : none) {
            due("seed " + seed, x.ball(0, seed, -1), -2);
            due("seed " + seed, x.ball(0, seed, 0), -2);
        }
        due("seed 0", x.ball(0, 0, 0), 8);
        due("seed 9999", x.ball(0, 9999, 0), 8);
    }

    @Case(promise = 12, says = "what NONE: BEATS; else that GUEST; -2: others")
    static void whats() {
        DanceWine x = cellar(LANE + "guest g plain at 0 0 way 0 age 0;guest h plain at 1 0 way 0 age 0;");
        pour(x, 0, 0, 0);
        due("beats", x.ball(0, 0, -1), 2);
        due("guest 0", x.ball(0, 0, 0), 16);
        due("guest 1", x.ball(0, 0, 1), 1);
        int[] none = {-2, 2, 6, MIN, MAX};
        for (int what : none) {
            due("what " + what, x.ball(0, 0, what), -2);
        }
    }

    @Case(promise = 12, says = "BEATS, till none has a STEP left: none at all, 576, the most of all GUESTS")
    static void beats() {
        DanceWine x = cellar("hall 2 2;dance a hop hop hop hop hop hop hop hop;dance b hop hop hop hop hop hop hop hop;"
                + "dance c left left left left left left left rest;wine w glasses 9 of a 4 b 4 c 4;"
                + "wine v glasses 9 of a 1;guest g plain at 0 0 way 0 age 0;guest h old at 1 0 way 0 age 0;");
        due("none", x.ball(0, 0, -1), 0);
        pour(x, 1, 1);
        due("8", x.ball(0, 0, -1), 8);
        pour(x, 0, 0, 0, 0, 0, 0, 0);
        due("576", x.ball(0, 0, -1), 576);
        due("all LOST: as many", x.ball(8, 0, -1), 576);
    }

    @Case(promise = 12, says = "a waiter has no STEP: no BEAT, no DRAW; he stands in the way")
    static void waiterAtBall() {
        DanceWine x = cellar(LANE + "guest q waiter at 0 0 way 0 age 0;guest g plain at 1 0 way 0 age 0;");
        pour(x, 0, 0, 0, 0);
        due("no beat", x.ball(0, 0, -1), 0);
        pour(x, 1, 0);
        // the first draw of the seed 0 is 0, the second 4
        places(x, 1, 0, 0, 1);
        places(x, 0, 0, 0, 9);
    }

    @Case(promise = 12, says = "LOST by the law: a BEAT, as rest")
    static void lostAtBall() {
        DanceWine x = cellar(LANE + "guest g plain at 0 0 way 0 age 0;stagger glass=0;");
        pour(x, 0, 0, 0);
        due("beats", x.ball(0, 0, -1), 2);
        places(x, 0, 0, 8);
    }

    @Case(promise = 12, says = "into a CELL in which another GUEST is then nobody comes (one stays)")
    static void othersInTheWay() {
        DanceWine x = cellar(LANE + "guest g plain at 0 0 way 1 age 0;guest h waiter at 1 0 way 0 age 0;");
        pour(x, 0, 0);
        places(x, 0, 0, 0, 1);
        x.water(0);
        pour(x, 0, 2);
        due("a turn is free", x.ball(0, 0, 0), 0);
    }

    @Case(promise = 12, says = "hop: over the first one, whatever is there: another GUEST; not onto one")
    static void hopOverGuest() {
        DanceWine x = cellar(LANE + "guest g plain at 0 0 way 1 age 0;guest h waiter at 1 0 way 0 age 0;");
        pour(x, 0, 1);
        places(x, 0, 0, 2, 1);
        x = cellar(LANE + "guest g plain at 0 0 way 1 age 0;guest h waiter at 2 0 way 0 age 0;");
        pour(x, 0, 1);
        places(x, 0, 0, 0, 2);
        x = cellar(LANE + "guest g lame at 0 0 way 1 age 0;guest h waiter at 1 0 way 0 age 0;");
        pour(x, 0, 1);
        places(x, 0, 0, 0, 1);
    }

    @Case(promise = 12, says = "in order: into a CELL that one of a lower number has just left")
    static void justLeft() {
        DanceWine x = cellar(LANE + "guest g plain at 1 0 way 1 age 0;guest h plain at 0 0 way 1 age 0;");
        pour(x, 0, 0);
        pour(x, 1, 0);
        places(x, 0, 0, 2, 1);
    }

    @Case(promise = 12, says = "in order: not into a CELL that one of a higher number will leave in this BEAT")
    static void notYetLeft() {
        DanceWine x = cellar(LANE + "guest g plain at 0 0 way 1 age 0;guest h plain at 1 0 way 1 age 0;");
        pour(x, 0, 0);
        pour(x, 1, 0);
        places(x, 0, 0, 0, 2);
    }

    @Case(promise = 12, says = "in order: of two who would come into one CELL the first comes")
    static void twoIntoOne() {
        DanceWine x = cellar(LANE + "guest g plain at 0 0 way 1 age 0;guest h plain at 2 0 way 3 age 0;");
        pour(x, 0, 0);
        pour(x, 1, 0);
        places(x, 0, 0, 1, 2);
    }

    @Case(promise = 12, says = "others may be there: two told in one CELL can leave it, and can't come back while one is in it")
    static void twoInOne() {
        DanceWine x = cellar(LANE + "guest g plain at 0 0 way 1 age 0;guest h waiter at 0 0 way 1 age 0;");
        pour(x, 0, 0);
        places(x, 0, 0, 1, 0);
        pour(x, 0, 2, 2, 0);
        places(x, 0, 0, 1, 0);
    }

    @Case(promise = 12, says = "till none has a STEP left: one who has none left stands in the way where he is then")
    static void doneStands() {
        DanceWine x = cellar(LANE + "guest g plain at 0 0 way 1 age 0;guest h plain at 3 0 way 3 age 0;");
        pour(x, 0, 0);
        pour(x, 1, 3);
        places(x, 0, 0, 1, 2);
    }

    @Case(promise = 12, says = "from where they were told: asking twice is the same, nothing is drunk or moved")
    static void ballTwice() {
        DanceWine x = cellar(LANE + "guest g plain at 0 0 way 0 age 0;");
        pour(x, 0, 3, 3);
        String before = state(x);
        int cell = x.ball(4, 77, 0);
        due("again", x.ball(4, 77, 0), cell);
        due("nothing changed", state(x), before);
    }

    @Case(promise = 12, says = "if it is below the HICCUP, the STEP is LOST: equal is not below; each DRAW of 0 to 7")
    static void belowTheHiccup() {
        DanceWine x = cellar(LANE + "guest g plain at 0 0 way 0 age 0;");
        pour(x, 0, 0);
        boolean[] met = new boolean[8];
        for (int seed = 0; seed < 24; seed++) {
            int draw = draws(seed, 1)[0];
            met[draw] = true;
            due("equal, seed " + seed, x.ball(draw, seed, 0), 8);
            due("below, seed " + seed, x.ball(draw + 1, seed, 0), 0);
        }
        for (int draw = 0; draw < 8; draw++) {
            due("a draw of " + draw + " was met", met[draw], true);
        }
    }

    @Case(promise = 12, says = "DRAWS by hand: the seeds 0 and 9999, 12 STEPS each")
    static void drawsByHand() {
        int[] of0 = {0, 4, 4, 5, 2, 7, 5, 5, 2, 2, 5, 4};
        int[] of9999 = {1, 1, 1, 2, 7, 7, 3, 3, 4, 2, 4, 4};
        for (int n = 0; n < 12; n++) {
            due("seed 0", draws(0, 12)[n], of0[n]);
            due("seed 9999", draws(9999, 12)[n], of9999[n]);
        }
        DanceWine x = cellar("hall 2 8;dance a ahead ahead;wine w glasses 9 of a 1;guest g plain at 0 0 way 0 age 0;");
        pour(x, 0, 0, 0, 0, 0, 0, 0);
        for (int hiccup = 0; hiccup <= 8; hiccup++) {
            int kept = 0;
            int kept9999 = 0;
            for (int n = 0; n < 12; n++) {
                kept += of0[n] >= hiccup ? 1 : 0;
                kept9999 += of9999[n] >= hiccup ? 1 : 0;
            }
            places(x, hiccup, 0, 8 * Math.min(7, kept));
            places(x, hiccup, 9999, 8 * Math.min(7, kept9999));
        }
    }

    @Case(promise = 12, says = "modulo 2147483648: g wraps; 576 DRAWS, the last one, too")
    static void manyDraws() {
        // with the law only the last of 576 STEPS is not LOST
        DanceWine x = cellar("hall 2 2;dance a rest rest rest rest rest rest rest rest;"
                + "dance b rest rest rest rest rest rest rest rest;dance c rest rest rest rest rest rest rest ahead;"
                + "wine w glasses 9 of a 4 b 4 c 4;guest g plain at 0 0 way 0 age 0;"
                + "stagger not(glass=5 and step=95);");
        pour(x, 0, 0, 0, 0, 0, 0, 0);
        for (int seed = 1; seed < 10000; seed += 1999) {
            int last = draws(seed, 576)[575];
            due("equal, seed " + seed, x.ball(last, seed, 0), 8);
            due("below, seed " + seed, x.ball(last + 1, seed, 0), 0);
        }
    }

    @Case(promise = 12, says = "ahead of each STEP of each (LOST ones, too) a DRAW")
    static void lostOnesDraw() {
        // the draws of the seed 0: 0 4 4 5; the first two STEPS are LOST by the law, the third draws 4
        DanceWine x = cellar(LANE + "guest g plain at 0 0 way 0 age 0;stagger step<2;");
        pour(x, 0, 3);
        due("4 is not below 4", x.ball(4, 0, 0), 8);
        due("4 is below 5", x.ball(5, 0, 0), 0);
    }

    @Case(promise = 12, says = "a DRAW of each, in order, BEAT by BEAT; who has no STEP left has none")
    static void drawsInTurn() {
        // seed 0: 0 4 | 4 5 | 2 | 7
        DanceWine x = cellar("hall 8 8;dance a ahead;wine w glasses 9 of a 1;guest g plain at 0 0 way 0 age 0;"
                + "guest h plain at 1 0 way 0 age 0;");
        pour(x, 0, 0, 0, 0, 0);
        pour(x, 1, 0, 0);
        due("beats", x.ball(1, 0, -1), 4);
        // g has 0 4 2 7, h has 4 5
        places(x, 1, 0, 24, 17);
        places(x, 3, 0, 16, 17);
        places(x, 5, 0, 8, 9);
        places(x, 6, 0, 8, 1);
        places(x, 8, 0, 0, 1);
    }

    @Case(promise = 12, says = "a hiccup has a STEP of turning LOST, too")
    static void turnsLost() {
        // seed 0: 0 4
        DanceWine x = cellar(LANE + "guest g plain at 3 3 way 0 age 0;");
        pour(x, 0, 2, 0);
        places(x, 0, 0, 28);
        places(x, 1, 0, 35);
    }

    @Case(promise = 12, says = "all GUESTS at once: six, the last one, too")
    static void sixAtBall() {
        DanceWine x = cellar(CellarCases.full());
        for (int g = 0; g < 6; g++) {
            for (int n = 0; n <= g; n++) {
                pour(x, g, n);
            }
        }
        due("beats", x.ball(0, 0, -1), 6);
        places(x, 0, 0, 8, 17, 26, 35, 44, 53);
        places(x, 8, 0, 0, 1, 2, 3, 4, 5);
        // the draws of the seed 0: 0 4 4 5 2 7 | 5 5 2 2 5 | 4 3 6 7 | 3 ..
        int[] draws = draws(0, 21);
        int[] cells = {0, 1, 2, 3, 4, 5};
        int at = 0;
        for (int beat = 0; beat < 6; beat++) {
            for (int g = beat; g < 6; g++) {
                cells[g] += draws[at++] >= 4 ? 8 : 0;
            }
        }
        places(x, 4, 0, cells);
    }

    @Case(promise = 12, says = "BEATS: fewer again behind water")
    static void fewerBeats() {
        DanceWine x = cellar(LANE + "guest g plain at 0 0 way 0 age 0;");
        pour(x, 0, 3, 0);
        due("four", x.ball(0, 0, -1), 4);
        x.water(0);
        due("three", x.ball(0, 0, -1), 3);
        x.water(0);
        due("none", x.ball(0, 0, -1), 0);
        due("at home", x.ball(0, 0, 0), 0);
    }

    @Case(promise = 12, says = "another GUEST is then: into the CELL 0, 0, into the CELL 7, 7; into one's own former CELL")
    static void cornersAtBall() {
        DanceWine x = cellar(LANE + "guest g plain at 1 0 way 3 age 0;guest i plain at 7 6 way 0 age 0;");
        pour(x, 0, 0);
        pour(x, 1, 0);
        places(x, 0, 0, 0, 63);
        pour(x, 0, 2, 2, 0);
        places(x, 0, 0, 1, 63);
    }
}
