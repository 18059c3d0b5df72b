/** Boundary cases of promises 18 (couples), 19 (quarrel) and 20 (found). */
final class CompanyCases extends Cases {
    // ---- promise 18

    private static int couplesAt(int... cells) {
        StringBuilder t = new StringBuilder("hall 8 8;dance r rest;wine w glasses 0 of r 1;");
        for (int n = 0; n < cells.length; n++) {
            t.append("guest g").append((char) ('a' + n)).append(" plain at ").append(cells[n] % 8).append(' ')
                    .append(cells[n] / 8).append(" way 0 age 0;");
        }
        return cellar(t.toString()).couples(0);
    }

    @Case(promise = 18, says = "NONE: no such WINE")
    static void couplesNoWine() {
        DanceWine x = cellar("hall 2 2;dance d rest;wine w glasses 0 of d 1;guest g plain at 0 0 way 0 age 0;");
        int[] none = {-1, 1, 6, MIN, MAX};
        for (int w : none) {
            due("couples(" + w + ")", x.couples(w), -1);
        }
        due("couples(0)", x.couples(0), 0);
    }

    @Case(promise = 18, says = "pairs of GUESTS: of none, of one, of two, of six in one CELL")
    static void couplesPairs() {
        due("none", couplesAt(), 0);
        due("one", couplesAt(9), 0);
        due("two", couplesAt(9, 9), 1);
        due("three", couplesAt(9, 9, 9), 3);
        due("six", couplesAt(9, 9, 9, 9, 9, 9), 15);
    }

    @Case(promise = 18, says = "|x - x| + |y - y| is 1 at most: next on each side, two off, aslant")
    static void couplesNext() {
        int[] next = {27 + 1, 27 - 1, 27 + 8, 27 - 8};
        for (int cell : next) {
            due("27 and " + cell, couplesAt(27, cell), 1);
            due(cell + " and 27", couplesAt(cell, 27), 1);
        }
        int[] far = {27 + 2, 27 - 2, 27 + 16, 27 - 16, 27 + 9, 27 - 9, 27 + 7, 27 - 7};
        for (int cell : far) {
            due("27 and " + cell, couplesAt(27, cell), 0);
        }
    }

    @Case(promise = 18, says = "next to one another: not the end of a row and the beginning of the next, no way round")
    static void couplesRound() {
        due("7, 0 and 0, 1", couplesAt(7, 8), 0);
        due("7, 0 and 0, 0", couplesAt(7, 0), 0);
        due("0, 7 and 0, 0", couplesAt(56, 0), 0);
    }

    @Case(promise = 18, says = "each having one glass of it alone, whatever they have drunk, the bottle empty or not")
    static void couplesAlone() {
        DanceWine x = cellar("hall 8 8;dance a ahead;wine w glasses 1 of a 1;guest g plain at 0 0 way 1 age 0;"
                + "guest h plain at 3 0 way 3 age 0;");
        due("1, 0 and 2, 0", x.couples(0), 1);
        pour(x, 0, 0);
        String before = state(x);
        due("the same", x.couples(0), 1);
        due("nothing changed", state(x), before);
    }

    @Case(promise = 18, says = "one glass: drunk is 1, glass is 0")
    static void couplesLaw() {
        DanceWine x = cellar("hall 8 8;dance a ahead;wine w glasses 9 of a 1;guest g plain at 0 0 way 1 age 0;"
                + "guest h plain at 3 0 way 3 age 0;stagger not(drunk=1 and glass=0);");
        pour(x, 0, 0, 0, 0);
        due("they come", x.couples(0), 1);
    }

    @Case(promise = 18, says = "would end: by themselves, each by its KIND")
    static void couplesKinds() {
        DanceWine x = cellar("hall 8 8;dance a right hop;wine w glasses 9 of a 1;guest g plain at 3 3 way 0 age 0;"
                + "guest h waiter at 6 3 way 0 age 0;guest i uncle at 5 4 way 0 age 0;guest j lame at 1 4 way 0 age 0;");
        // g 5,3; h 6,3; i 3,4; j 2,4
        due("two pairs", x.couples(0), 2);
    }

    @Case(promise = 18, says = "COUPLES of a WINE: of each of six its own")
    static void couplesOfSixWines() {
        StringBuilder t = new StringBuilder("hall 8 2;dance a ahead;dance b rest;");
        String[] parts = {"b 1", "a 1", "a 2", "a 3", "a 4", "a 4 b 1"};
        for (int w = 0; w < 6; w++) {
            t.append("wine w").append((char) ('a' + w)).append(" glasses 0 of ").append(parts[w]).append(';');
        }
        // 0, 0 to the east, 5, 0 to the west
        DanceWine x = cellar(t + "guest g plain at 0 0 way 1 age 0;guest h plain at 5 0 way 3 age 0;");
        int[] want = {0, 0, 1, 1, 0, 0};
        for (int w = 0; w < 6; w++) {
            due("couples(" + w + ")", x.couples(w), want[w]);
        }
    }

    // ---- promise 19

    private static boolean quarrel(String one, String other) {
        return cellar("hall 2 2;dance a " + one + ";dance b " + other + ";wine w glasses 0 of a 1;wine v glasses 0 of b 1;")
                .quarrel(0, 1);
    }

    private static void quarrels(String one, String other, boolean want) {
        due(one + " / " + other, quarrel(one, other), want);
        due(other + " / " + one, quarrel(other, one), want);
    }

    @Case(promise = 19, says = "more than half: exactly half is not, one more is")
    static void quarrelHalf() {
        quarrels("left rest", "right rest", false);
        quarrels("left left", "right right", true);
        quarrels("left left rest rest", "right right rest rest", false);
        quarrels("left left left rest", "right right right rest", true);
        quarrels("left", "right", true);
        quarrels("left left rest", "right right rest", true);
        quarrels("left rest rest", "right rest rest", false);
    }

    @Case(promise = 19, says = "of their STEPS, as many as both have: what one has more does not count")
    static void quarrelBoth() {
        quarrels("left rest rest rest rest rest rest rest", "right", true);
        quarrels("rest left left left left", "right", false);
        quarrels("left left rest rest rest", "right right rest", true);
        quarrels("left rest right right right", "right rest", false);
    }

    @Case(promise = 19, says = "left in one and right in the other, or the other way round: alike is none, nor is rest")
    static void quarrelSides() {
        quarrels("left left", "left left", false);
        quarrels("right right", "right right", false);
        quarrels("left left", "rest ahead", false);
        quarrels("hop right", "ahead ahead", false);
        quarrels("left right", "right left", true);
        quarrels("left right rest", "right left rest", true);
    }

    @Case(promise = 19, says = "left in one and right in the other: each STEP against each")
    static void quarrelEachStep() {
        String[] steps = {"ahead", "hop", "left", "right", "rest"};
        for (int a = 0; a < 5; a++) {
            for (int b = 0; b < 5; b++) {
                due(steps[a] + " / " + steps[b], quarrel(steps[a], steps[b]), a == 2 && b == 3 || a == 3 && b == 2);
            }
        }
    }

    @Case(promise = 19, says = "more than half: 48 of 96 is not, whatever WINE is told next")
    static void quarrelHalfOfMost() {
        String l = " left left left left left left left left;";
        String r = " right right right right right right right right;";
        String h = " left left left left rest rest rest rest;";
        DanceWine x = cellar("hall 2 2;dance a" + l + "dance b" + l + "dance c" + l + "dance d" + r + "dance e" + r
                + "dance f" + h + "wine w glasses 0 of d 4 e 4;wine v glasses 0 of a 2 b 2 f 4;"
                + "wine u glasses 0 of a 4 f 4;");
        due("48 of 64", x.quarrel(0, 1), true);
        due("48 of 64", x.quarrel(0, 2), true);
        x = cellar("hall 2 2;dance a" + l + "dance b" + r + "dance c" + h + "dance d rest rest rest rest rest rest rest rest;"
                + "dance e" + r + "wine w glasses 0 of b 4 e 4 d 4;wine v glasses 0 of a 4 c 4 d 4;wine u glasses 0 of b 1;");
        due("48 of 96", x.quarrel(0, 1), false);
        due("48 of 96", x.quarrel(1, 0), false);
    }

    @Case(promise = 19, says = "as many as both have: what a former CELLAR had behind them does not count")
    static void quarrelFormer() {
        DanceWine x = new DanceWine();
        for (int n = 0; n < 2; n++) {
            due("told", Check.told(x, "hall 2 2;dance a left left;dance b right right;wine w glasses 0 of a 4;"
                    + "wine v glasses 0 of b 4;"), 0);
            due("all", x.quarrel(0, 1), true);
        }
        due("told", Check.told(x, "hall 2 2;dance a rest left;dance b rest right;wine w glasses 0 of a 1;"
                + "wine v glasses 0 of b 1;"), 0);
        due("1 of 2", x.quarrel(0, 1), false);
    }

    @Case(promise = 19, says = "false: the same, too")
    static void quarrelSame() {
        DanceWine x = cellar("hall 2 2;dance a left right;wine w glasses 0 of a 1;");
        due("itself", x.quarrel(0, 0), false);
    }

    @Case(promise = 19, says = "false: others: no such WINE on either side")
    static void quarrelOthers() {
        DanceWine x = cellar("hall 2 2;dance a left;dance b right;wine w glasses 0 of a 1;wine v glasses 0 of b 1;");
        due("fine", x.quarrel(0, 1), true);
        int[] none = {-1, 2, 6, MIN, MAX};
        for (int w : none) {
            due("quarrel(0, " + w + ")", x.quarrel(0, w), false);
            due("quarrel(" + w + ", 1)", x.quarrel(w, 1), false);
            due("quarrel(" + w + ", " + w + ")", x.quarrel(w, w), false);
        }
    }

    @Case(promise = 19, says = "STEPS of a WINE: all its parts, so many times; 96 against 96")
    static void quarrelLong() {
        String t = "hall 2 2;dance a left left left left left left left left;dance b left left left left left left left left;"
                + "dance c left rest rest rest rest rest rest rest;dance e right right right right right right right right;"
                + "dance f right right right right right right right right;dance g right rest rest rest rest rest rest rest;";
        // 49 of 96: b once is 8, c four times is 4; a 4 + b 1 is 40
        DanceWine x = cellar(t + "wine w glasses 0 of a 4 b 4 c 4;wine v glasses 0 of e 4 g 4 f 4;");
        due("32 + 4 + 4 of 96", x.quarrel(0, 1), false);
        x = cellar(t + "wine w glasses 0 of a 4 b 4 c 4;wine v glasses 0 of e 4 f 4 g 4;");
        due("32 + 32 + 4 of 96", x.quarrel(0, 1), true);
        x = cellar(t + "wine w glasses 0 of a 4;wine v glasses 0 of e 2 g 2;");
        due("18 of 32", x.quarrel(0, 1), true);
        x = cellar(t + "wine w glasses 0 of a 4;wine v glasses 0 of e 1 g 3;");
        due("11 of 32", x.quarrel(0, 1), false);
    }

    @Case(promise = 19, says = "STEPS of a WINE: the law takes none")
    static void quarrelLaw() {
        DanceWine x = cellar("hall 2 2;dance a left;dance b right;wine w glasses 0 of a 1;wine v glasses 0 of b 1;stagger 1;");
        due("quarrel", x.quarrel(0, 1), true);
    }

    // ---- promise 20

    private static final String F = "hall 8 8;dance a ahead left;dance b ahead;dance c rest left;dance d ahead left ahead;"
            + "dance e ahead left ahead left;wine w glasses 9 of a 1;wine v glasses 9 of b 1;";

    @Case(promise = 20, says = "NONE: no such DANCE")
    static void foundNoDance() {
        DanceWine x = cellar(F + "guest p plain at 0 0 way 0 age 0;");
        int[] none = {-1, 5, 6, MIN, MAX};
        for (int d : none) {
            due("found(" + d + ")", x.found(d), -1);
        }
        due("found(4)", x.found(4), 0);
    }

    @Case(promise = 20, says = "at least as many STEPS as a DANCE: one less, as many, one more")
    static void foundLength() {
        DanceWine x = cellar(F + "guest p plain at 0 0 way 0 age 0;");
        due("none", x.found(1), 0);
        pour(x, 0, 0);
        due("one less than d", x.found(3), 0);
        due("as many as a", x.found(0), 1);
        due("one more than b", x.found(1), 1);
        pour(x, 0, 1);
        due("as many as d, over two glasses", x.found(3), 1);
        due("one less than e", x.found(4), 0);
    }

    @Case(promise = 20, says = "whose first ones are those: another one at the last place, at the first")
    static void foundFirst() {
        DanceWine x = cellar("hall 8 8;dance a ahead left;dance b ahead right;dance c hop left;dance d left;"
                + "wine w glasses 9 of a 1;guest p plain at 0 0 way 0 age 0;");
        pour(x, 0, 0);
        due("a", x.found(0), 1);
        due("b: another last", x.found(1), 0);
        due("c: another first", x.found(2), 0);
        due("d: not the first", x.found(3), 0);
    }

    @Case(promise = 20, says = "LOST ones being rest: they are not the STEP that they were")
    static void foundLost() {
        DanceWine x = cellar(F + "guest p plain at 0 0 way 0 age 0;guest q plain at 0 0 way 0 age 1;stagger age and step=0;");
        pour(x, 0, 0);
        pour(x, 1, 0);
        due("a", x.found(0), 1);
        due("rest left", x.found(2), 2);
    }

    @Case(promise = 20, says = "a waiter has no STEPS: never FOUND; an old one's first are those of his last glass")
    static void foundKinds() {
        DanceWine x = cellar(F + "guest q waiter at 0 0 way 0 age 0;guest o old at 0 0 way 0 age 0;");
        pour(x, 0, 0, 1);
        pour(x, 1, 0, 1);
        due("a", x.found(0), 0);
        due("b", x.found(1), 2);
        pour(x, 1, 0);
        due("a, by the last glass", x.found(0), 2);
        due("d, on into the next", x.found(3), 2);
    }

    @Case(promise = 20, says = "those are STEPS as drunk: a lame one's hop is hop, an uncle's left is left")
    static void foundAsDrunk() {
        DanceWine x = cellar("hall 8 8;dance a hop;dance b ahead;dance c left;dance d right;wine w glasses 9 of a 1;"
                + "wine v glasses 9 of c 1;guest l lame at 0 0 way 0 age 0;guest u uncle at 0 0 way 0 age 0;");
        pour(x, 0, 0);
        pour(x, 1, 1);
        due("hop", x.found(0), 1);
        due("ahead", x.found(1), 0);
        due("left", x.found(2), 2);
        due("right", x.found(3), 0);
    }

    @Case(promise = 20, says = "FOUND as bits: nobody, all six")
    static void foundSix() {
        DanceWine x = cellar(CellarCases.full());
        due("nobody", x.found(0), 0);
        for (int g = 0; g < 6; g++) {
            pour(x, g, g);
        }
        due("all", x.found(5), 63);
        x.water(5);
        due("but the last", x.found(5), 31);
        x.water(0);
        due("but the first and the last", x.found(5), 30);
    }
}
