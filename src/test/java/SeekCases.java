/** Boundary cases of promises 13 (fewest), 16 (served) and 17 (row). */
final class SeekCases extends Cases {
    private static final String D = "hall 8 8;dance a ahead;dance l left;dance h hop;";
    private static final String G = "guest g plain at 3 3 way 0 age 0;";

    private static void fewest(DanceWine x, int guest, int cx, int cy, int... row) {
        String of = "fewest(" + guest + ", " + cx + ", " + cy + ", ";
        due(of + "NONE)", x.fewest(guest, cx, cy, -1), row.length);
        for (int i = 0; i < row.length; i++) {
            due(of + i + ")", x.fewest(guest, cx, cy, i), row[i]);
        }
        due(of + "beyond)", x.fewest(guest, cx, cy, row.length), -1);
    }

    private static void fewestNone(DanceWine x, int guest, int cx, int cy) {
        for (int what = -1; what < 7; what++) {
            due("fewest(" + guest + ", " + cx + ", " + cy + ", " + what + ")", x.fewest(guest, cx, cy, what), -1);
        }
    }

    // ---- promise 13

    @Case(promise = 13, says = "how many: none, in the CELL where it was told")
    static void fewestNought() {
        DanceWine x = cellar(D + "wine w glasses 9 of a 1;" + G);
        due("how many", x.fewest(0, 3, 3, -1), 0);
        due("no wine", x.fewest(0, 3, 3, 0), -1);
    }

    @Case(promise = 13, says = "6 at most: six glasses reach it, seven would")
    static void fewestSix() {
        DanceWine x = cellar("hall 8 2;dance a ahead;wine w glasses 99 of a 1;guest g plain at 0 0 way 1 age 0;");
        fewest(x, 0, 5, 0, 0, 0, 0, 0, 0);
        fewest(x, 0, 6, 0, 0, 0, 0, 0, 0, 0);
        fewestNone(x, 0, 7, 0);
    }

    @Case(promise = 13, says = "of any WINES of which that many are there: as many as are left, not one more")
    static void fewestThere() {
        DanceWine x = cellar(D + "wine w glasses 2 of a 1;wine v glasses 0 of h 1;" + G);
        fewest(x, 0, 3, 5, 0, 0);
        fewestNone(x, 0, 3, 6);
        pour(x, 0, 0);
        fewest(x, 0, 3, 4, 0);
        fewestNone(x, 0, 3, 5);
        pour(x, 0, 0);
        fewestNone(x, 0, 3, 4);
        fewest(x, 0, 3, 3);
        x.water(0);
        fewestNone(x, 0, 3, 4);
        x.undo();
        x.undo();
        fewest(x, 0, 3, 4, 0);
    }

    @Case(promise = 13, says = "that many are there: a longer row, or a later one, since one bottle is too small")
    static void fewestLonger() {
        DanceWine x = cellar(D + "wine w glasses 1 of h 1;wine v glasses 9 of a 1;" + G);
        fewest(x, 0, 3, 5, 0);
        fewest(x, 0, 3, 7, 0, 1, 1);
        pour(x, 0, 0);
        fewest(x, 0, 3, 5, 1, 1);
    }

    @Case(promise = 13, says = "of equal ones the first row of WINES")
    static void fewestFirst() {
        DanceWine x = cellar(D + "wine w glasses 9 of a 1;wine v glasses 9 of h 1;wine u glasses 9 of a 1;" + G);
        fewest(x, 0, 3, 4, 0);
        fewest(x, 0, 3, 6, 0, 1);
        x = cellar(D + "wine w glasses 0 of a 1;wine v glasses 9 of h 1;wine u glasses 9 of a 1;" + G);
        fewest(x, 0, 3, 4, 2);
        fewest(x, 0, 3, 6, 1, 2);
    }

    @Case(promise = 13, says = "of equal ones the first row: by the first glass drunk, though an old one dances the last first")
    static void fewestOld() {
        DanceWine x = cellar(D + "wine w glasses 9 of a 1;wine v glasses 9 of l 1;guest o old at 3 3 way 0 age 0;");
        // left, ahead
        fewest(x, 0, 2, 3, 0, 1);
        // ahead, left, ahead
        fewest(x, 0, 2, 4, 0, 1, 0);
    }

    @Case(promise = 13, says = "by none: NONE")
    static void fewestByNone() {
        DanceWine x = cellar(D + "wine w glasses 9 of a 1;pillar 3 6;" + G);
        fewestNone(x, 0, 0, 0);
        fewestNone(x, 0, 3, 6);
        fewestNone(x, 0, 3, 7);
        x = cellar(D + G);
        fewestNone(x, 0, 3, 4);
        fewest(x, 0, 3, 3);
    }

    @Case(promise = 13, says = "NONE: others: no such GUEST, no such CELL")
    static void fewestOthers() {
        DanceWine x = cellar("hall 5 3;dance a ahead;wine w glasses 9 of a 1;guest g plain at 4 2 way 0 age 0;");
        int[] none = {-1, 1, 6, MIN, MAX};
        for (int g : none) {
            fewestNone(x, g, 4, 2);
        }
        int[] noX = {-1, 5, MIN, MAX};
        for (int cx : noX) {
            fewestNone(x, 0, cx, 2);
        }
        int[] noY = {-1, 3, MIN, MAX};
        for (int cy : noY) {
            fewestNone(x, 0, 4, cy);
        }
    }

    @Case(promise = 13, says = "NONE: others, beyond: another what")
    static void fewestWhat() {
        DanceWine x = cellar(D + "wine w glasses 9 of a 1;" + G);
        int[] none = {-2, 2, 6, MIN, MAX};
        for (int what : none) {
            due("what " + what, x.fewest(0, 3, 5, what), -1);
        }
        due("the last", x.fewest(0, 3, 5, 1), 0);
    }

    @Case(promise = 13, says = "a GUEST who had drunk nothing: what it has drunk does not count; nothing is taken by asking")
    static void fewestDrunkNothing() {
        DanceWine x = cellar(D + "wine w glasses 9 of a 1;wine v glasses 9 of l 1;" + G);
        pour(x, 0, 1, 1);
        String before = state(x);
        fewest(x, 0, 3, 4, 0);
        due("nothing changed", state(x), before);
    }

    @Case(promise = 13, says = "a waiter takes no STEP: his own CELL by none, no other")
    static void fewestWaiter() {
        DanceWine x = cellar(D + "wine w glasses 9 of a 1;guest q waiter at 3 3 way 0 age 0;");
        fewest(x, 0, 3, 3);
        fewestNone(x, 0, 3, 4);
    }

    @Case(promise = 13, says = "drunk (how many it has in what is asked), glass, step: the law of the row")
    static void fewestLaw() {
        DanceWine x = cellar(D + "wine w glasses 9 of a 1;wine v glasses 9 of l 1;" + G + "stagger drunk<6;");
        // two ahead, about, one ahead, and a turn
        fewest(x, 0, 3, 4, 0, 0, 1, 1, 0, 1);
        fewest(x, 0, 3, 3);
        x = cellar(D + "wine w glasses 9 of a 1;" + G + "stagger glass<5;");
        fewest(x, 0, 3, 4, 0, 0, 0, 0, 0, 0);
        fewestNone(x, 0, 3, 5);
    }

    @Case(promise = 13, says = "its WALK ends in a CELL: whatever way, not on its way through")
    static void fewestEnds() {
        DanceWine x = cellar("hall 8 8;dance a ahead ahead;dance b ahead right;wine w glasses 9 of a 1;"
                + "wine v glasses 9 of b 1;" + G);
        fewest(x, 0, 3, 4, 1);
        fewest(x, 0, 3, 5, 0);
    }

    @Case(promise = 13, says = "six WINES, six glasses: the last of all rows")
    static void fewestLastRow() {
        StringBuilder t = new StringBuilder("hall 8 8;dance a rest;dance b hop;");
        for (char c = 'p'; c < 'u'; c++) {
            t.append("wine ").append(c).append(" glasses 0 of a 1;");
        }
        DanceWine x = cellar(t + "wine u glasses 6 of b 1;guest g plain at 0 0 way 0 age 0;stagger glass<3;");
        fewest(x, 0, 0, 6, 5, 5, 5, 5, 5, 5);
    }

    // ---- promise 16

    private static final String S = "hall 8 8;dance a ahead;dance l left;wine one glasses 0 of a 1;"
            + "wine about glasses 1 of l 2;" + G;

    @Case(promise = 16, says = "the empty row, too")
    static void servedEmptyRow() {
        due("no wine at all", cellar("hall 8 8;" + G).served(0, 3, 3, 0), 1);
        due("no wine, another way", cellar("hall 8 8;" + G).served(0, 3, 3, 1), 0);
        // the empty row, and about twice
        due("with wines", cellar(S).served(0, 3, 3, 0), 2);
    }

    @Case(promise = 16, says = "rows of at most 3 WINES")
    static void servedThree() {
        DanceWine x = cellar("hall 8 8;dance a ahead;wine w glasses 99 of a 1;guest g plain at 0 0 way 1 age 0;");
        for (int cx = 0; cx < 8; cx++) {
            due("served " + cx, x.served(0, cx, 0, 1), cx <= 3 ? 1 : 0);
        }
    }

    @Case(promise = 16, says = "as if each had enough: bottles of none")
    static void servedEnough() {
        due("three of a bottle of none", cellar(S).served(0, 3, 6, 0), 1);
    }

    @Case(promise = 16, says = "in a CELL with a way: the right CELL, another way")
    static void servedWay() {
        DanceWine x = cellar(S);
        due("way 0", x.served(0, 3, 5, 0), 1);
        due("way 2", x.served(0, 3, 5, 2), 1);
        due("way 1", x.served(0, 3, 5, 1), 0);
        due("way 3", x.served(0, 3, 5, 3), 0);
    }

    @Case(promise = 16, says = "how many rows: none for a CELL that can't be reached, a pillar's, too")
    static void servedNone() {
        DanceWine x = cellar(S + "pillar 3 4;");
        due("a pillar", x.served(0, 3, 4, 0), 0);
        due("behind it", x.served(0, 3, 5, 0), 0);
    }

    @Case(promise = 16, says = "how many: 1 + 6 + 36 + 216 for six WINES")
    static void servedAll() {
        due("259", cellar(sixOfRest()).served(0, 1, 1, 1), 259);
    }

    private static String sixOfRest() {
        StringBuilder t = new StringBuilder("hall 2 2;dance r rest;guest g plain at 1 1 way 1 age 0;");
        for (char c = 'a'; c < 'g'; c++) {
            t.append("wine w").append(c).append(" glasses 0 of r 1;");
        }
        return t.toString();
    }

    @Case(promise = 16, says = "NONE: others: no such GUEST, CELL, way")
    static void servedOthers() {
        DanceWine x = cellar("hall 5 3;guest g plain at 4 2 way 3 age 0;");
        due("fine", x.served(0, 4, 2, 3), 1);
        int[][] none = {{-1, 4, 2, 3}, {1, 4, 2, 3}, {MAX, 4, 2, 3}, {MIN, 4, 2, 3}, {0, -1, 2, 3}, {0, 5, 2, 3},
            {0, MAX, 2, 3}, {0, 4, -1, 3}, {0, 4, 3, 3}, {0, 4, MIN, 3}, {0, 4, 2, -1}, {0, 4, 2, 4}, {0, 4, 2, MAX}};
        for (int[] n : none) {
            String of = n[0] + ", " + n[1] + ", " + n[2] + ", " + n[3];
            due("served(" + of + ")", x.served(n[0], n[1], n[2], n[3]), -1);
            due("row(" + of + ")", x.row(n[0], n[1], n[2], n[3], 0, -1), -1);
        }
    }

    @Case(promise = 16, says = "a GUEST who had drunk nothing, whatever it has drunk")
    static void servedDrunkNothing() {
        DanceWine x = cellar(S);
        int before = x.served(0, 3, 4, 0);
        pour(x, 0, 1);
        due("served", x.served(0, 3, 4, 0), before);
        due("glasses", x.guest(0, 4), 1);
    }

    @Case(promise = 16, says = "drunk (how many it has in what is asked): the law of each row's length")
    static void servedLaw() {
        DanceWine x = cellar("hall 8 8;dance a ahead;wine w glasses 0 of a 1;" + G + "stagger drunk=3 or drunk=1;");
        due("one and three are LOST", x.served(0, 3, 3, 0), 3);
        due("two", x.served(0, 3, 5, 0), 1);
        due("three", x.served(0, 3, 6, 0), 0);
    }

    // ---- promise 17

    private static void row(DanceWine x, int cx, int cy, int way, int i, int... wines) {
        String of = "row(0, " + cx + ", " + cy + ", " + way + ", " + i + ", ";
        due(of + "NONE)", x.row(0, cx, cy, way, i, -1), wines.length);
        for (int at = 0; at < wines.length; at++) {
            due(of + at + ")", x.row(0, cx, cy, way, i, at), wines[at]);
        }
        due(of + "beyond)", x.row(0, cx, cy, way, i, wines.length), -1);
    }

    @Case(promise = 17, says = "the i-th (shorter ones first, then the first row)")
    static void rowOrder() {
        DanceWine x = cellar(S);
        row(x, 3, 4, 0, 0, 0);
        row(x, 3, 4, 0, 1, 0, 1, 1);
        row(x, 3, 4, 0, 2, 1, 1, 0);
        x = cellar(sixOfRest());
        row(x, 1, 1, 1, 0);
        row(x, 1, 1, 1, 1, 0);
        row(x, 1, 1, 1, 6, 5);
        row(x, 1, 1, 1, 7, 0, 0);
        row(x, 1, 1, 1, 42, 5, 5);
        row(x, 1, 1, 1, 43, 0, 0, 0);
        row(x, 1, 1, 1, 44, 0, 0, 1);
        row(x, 1, 1, 1, 49, 0, 1, 0);
        row(x, 1, 1, 1, 258, 5, 5, 5);
    }

    @Case(promise = 17, says = "how many WINES: the empty row has none, and none at any place")
    static void rowEmpty() {
        DanceWine x = cellar(S);
        due("how many", x.row(0, 3, 3, 0, 0, -1), 0);
        due("the first", x.row(0, 3, 3, 0, 0, 0), -1);
    }

    @Case(promise = 17, says = "NONE: none such: an i below and beyond")
    static void rowNoneSuch() {
        DanceWine x = cellar(S);
        int[] none = {-1, 2, MIN, MAX};
        for (int i : none) {
            due("i " + i, x.row(0, 3, 3, 0, i, -1), -1);
            due("i " + i, x.row(0, 3, 3, 0, i, 0), -1);
        }
        due("the last", x.row(0, 3, 3, 0, 1, -1), 2);
        due("beyond 259", cellar(sixOfRest()).row(0, 1, 1, 1, 259, -1), -1);
        due("by none", x.row(0, 0, 0, 0, 0, -1), -1);
    }

    @Case(promise = 17, says = "NONE: others: an at below and beyond")
    static void rowAt() {
        DanceWine x = cellar(S);
        int[] none = {-2, 1, 3, 6, MIN, MAX};
        for (int at : none) {
            due("at " + at, x.row(0, 3, 4, 0, 0, at), -1);
        }
        due("at 0", x.row(0, 3, 4, 0, 0, 0), 0);
    }

    @Case(promise = 17, says = "NONE: others: no such GUEST, CELL, way")
    static void rowOthers() {
        servedOthers();
    }

    @Case(promise = 17, says = "0 the first: the first drunk, though an old one dances the last first")
    static void rowOfOldOne() {
        DanceWine x = cellar("hall 8 8;dance a ahead;dance l left;wine one glasses 0 of a 1;wine turn glasses 1 of l 1;"
                + "guest g old at 3 3 way 0 age 0;");
        due("left, ahead", x.served(0, 2, 3, 3), 1);
        row(x, 2, 3, 3, 0, 0, 1);
    }

    @Case(promise = 17, says = "a waiter: every row ends where he was told")
    static void rowOfWaiter() {
        DanceWine x = cellar("hall 8 8;dance a ahead;dance l left;wine one glasses 0 of a 1;wine turn glasses 1 of l 1;"
                + "guest g waiter at 3 3 way 0 age 0;");
        due("all", x.served(0, 3, 3, 0), 15);
        row(x, 3, 3, 0, 14, 1, 1, 1);
        due("elsewhere", x.served(0, 3, 4, 0), 0);
    }

    @Case(promise = 13, says = "a GUEST: each of six by itself, from its own CELL")
    static void fewestOfSix() {
        DanceWine x = cellar(CellarCases.full());
        for (int g = 0; g < 6; g++) {
            fewest(x, g, g, 0);
            fewest(x, g, g, 2, 0, 0);
            fewestNone(x, g, (g + 1) % 6, 2);
        }
        due("one after another to one CELL", x.fewest(0, 3, 2, -1), -1);
        due("one after another to one CELL", x.fewest(3, 3, 2, -1), 2);
        due("one after another to one CELL", x.fewest(5, 3, 2, -1), -1);
        due("one after another to one CELL", x.fewest(3, 3, 2, 1), 0);
        due("one after another to one CELL", x.fewest(2, 3, 2, 1), -1);
    }

    @Case(promise = 13, says = "a CELL: the far corner of the largest hall, from it and to it, each way")
    static void fewestCorner() {
        String t = "hall 8 8;dance a ahead;dance l left;wine w glasses 9 of a 1;wine v glasses 9 of l 1;";
        for (int way = 0; way < 4; way++) {
            DanceWine x = cellar(t + "guest g plain at 7 7 way " + way + " age 0;");
            fewest(x, 0, 7, 7);
            int turns = (way + 2) % 4;
            due("south, way " + way, x.fewest(0, 7, 6, -1), turns + 1);
            due("the last, way " + way, x.fewest(0, 7, 6, turns), 0);
        }
        DanceWine x = cellar(t + "guest g plain at 6 7 way 1 age 0;guest h plain at 7 6 way 0 age 0;");
        fewest(x, 0, 7, 7, 0);
        fewest(x, 1, 7, 7, 0);
    }

    @Case(promise = 13, says = "the longest WINES: 96 STEPS, six glasses")
    static void fewestLongest() {
        String rests = " rest rest rest rest rest rest rest";
        DanceWine x = cellar("hall 8 8;dance a" + rests + " rest;dance b" + rests + " rest;dance c" + rests + " ahead;"
                + "wine w glasses 9 of a 4 b 4 c 4;guest g plain at 0 0 way 0 age 0;stagger step<95;");
        fewest(x, 0, 0, 6, 0, 0, 0, 0, 0, 0);
        fewestNone(x, 0, 0, 7);
        due("served", x.served(0, 0, 3, 0), 1);
        x = cellar("hall 8 8;dance a" + rests + " rest;dance b" + rests + " rest;dance c" + rests + " ahead;"
                + "wine w glasses 9 of a 4 b 4 c 4;guest g plain at 0 0 way 0 age 0;stagger not(glass=5 and step=95);");
        fewest(x, 0, 0, 1, 0, 0, 0, 0, 0, 0);
    }

    @Case(promise = 13, says = "of which that many are there: six WINES that would reach it, none with enough")
    static void fewestNotEnough() {
        StringBuilder t = new StringBuilder("hall 8 8;dance a ahead;dance b left;");
        for (char c = 'p'; c < 'v'; c++) {
            t.append("wine ").append(c).append(" glasses ").append(c == 'u' ? 1 : 2).append(" of ")
                    .append(c == 'u' ? 'a' : 'b').append(" 4;");
        }
        // each wine but the last turns all round
        DanceWine x = cellar(t + "guest g plain at 0 0 way 0 age 0;stagger step;");
        fewest(x, 0, 0, 1, 5);
        fewestNone(x, 0, 0, 2);
        due("not twice", x.fewest(0, 1, 1, -1), -1);
        DanceWine y = cellar(t + "guest g plain at 0 0 way 0 age 0;");
        fewest(y, 0, 0, 4, 5);
        fewestNone(y, 0, 0, 7);
        // told anew with fewer wines: the former ones are not there
        due("told", Check.told(y, "hall 8 8;dance a ahead;wine w glasses 1 of a 4;guest g plain at 0 0 way 0 age 0;"), 0);
        fewest(y, 0, 0, 4, 0);
        fewestNone(y, 0, 0, 7);
    }

    @Case(promise = 13, says = "asked in between: served, row, another CELL, another GUEST change no answer")
    static void fewestInBetween() {
        DanceWine x = cellar(D + "wine w glasses 9 of a 1;wine v glasses 9 of l 1;" + G
                + "guest k plain at 3 2 way 0 age 0;");
        due("how many", x.fewest(0, 2, 4, -1), 3);
        due("served", x.served(0, 3, 3, 3), 1);
        due("the second", x.fewest(0, 2, 4, 1), 1);
        due("row", x.row(0, 3, 6, 0, 0, 0), 0);
        due("the second", x.fewest(0, 2, 4, 1), 1);
        due("row", x.row(0, 3, 3, 1, 0, 2), 1);
        due("the first", x.fewest(0, 2, 4, 0), 0);
        due("of another", x.fewest(1, 2, 4, -1), 4);
        due("of the one", x.fewest(0, 2, 4, -1), 3);
        due("another cell", x.fewest(0, 3, 4, -1), 1);
        due("the cell", x.fewest(0, 2, 4, 2), 0);
    }

    @Case(promise = 16, says = "six WINES that differ, each GUEST of six: rows of any of them")
    static void servedSixWines() {
        StringBuilder t = new StringBuilder("hall 8 8;dance a ahead;dance b hop;dance c left;dance d right;dance e rest;");
        String[] parts = {"a 1", "b 1", "c 1", "d 1", "e 1", "a 3"};
        for (int w = 0; w < 6; w++) {
            t.append("wine w").append((char) ('a' + w)).append(" glasses 0 of ").append(parts[w]).append(';');
        }
        DanceWine x = cellar(t + "guest g plain at 0 0 way 0 age 0;guest h plain at 7 0 way 0 age 0;");
        // 3 3; 1 2 3 in any order; 2 2 2; 3 3 0 in any order; 3 3 and a hop beyond the end
        due("six on", x.served(0, 0, 6, 0), 1 + 6 + 1 + 3 + 1);
        for (int g = 0; g < 2; g++) {
            due("seven on", x.served(g, g * 7, 7, 0), 9);
        }
        row(x, 0, 7, 0, 0, 0, 5, 5);
        row(x, 0, 7, 0, 1, 1, 1, 5);
        row(x, 0, 7, 0, 2, 1, 5, 1);
        row(x, 0, 7, 0, 3, 1, 5, 5);
        row(x, 0, 7, 0, 4, 5, 0, 5);
        row(x, 0, 7, 0, 5, 5, 1, 1);
        row(x, 0, 7, 0, 6, 5, 1, 5);
        row(x, 0, 7, 0, 7, 5, 5, 0);
        row(x, 0, 7, 0, 8, 5, 5, 5);
    }

    @Case(promise = 16, says = "a CELL with a way: the far corner of the largest hall, each way")
    static void servedCorner() {
        for (int way = 0; way < 4; way++) {
            DanceWine x = cellar("hall 8 8;dance l left;wine w glasses 0 of l 1;guest g plain at 7 7 way " + way + " age 0;");
            for (int to = 0; to < 4; to++) {
                due("from " + way + " to " + to, x.served(0, 7, 7, to), 1);
            }
        }
    }

    @Case(promise = 17, says = "the i-th: of each of six GUESTS")
    static void rowOfSix() {
        DanceWine x = cellar(CellarCases.full());
        for (int g = 0; g < 6; g++) {
            due("served", x.served(g, g, 1, 0), 6);
            due("row", x.row(g, g, 1, 0, 5, 0), 5);
            due("of another's cell", x.row(g, (g + 1) % 6, 1, 0, 0, -1), -1);
        }
    }
}
