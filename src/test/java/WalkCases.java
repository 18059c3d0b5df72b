/** Boundary cases of promise 11 (walk): ways, ends, pillars, kinds. Those of the law are in LawCases. */
final class WalkCases extends Cases {
    /** One guest in a hall who has one glass of a dance. */
    private static DanceWine danced(String hall, String guest, String steps) {
        DanceWine x = cellar(hall + "dance d " + steps + ";wine w glasses 9 of d 1;guest g " + guest + " age 40;");
        pour(x, 0, 0);
        return x;
    }

    private static void ends(String guest, String steps, int px, int py, int way) {
        ends("hall 8 8;", guest, steps, px, py, way);
    }

    private static void ends(String hall, String guest, String steps, int px, int py, int way) {
        DanceWine x = danced(hall, guest, steps);
        String name = hall + guest + ": " + steps;
        due(name + ": cell", x.walk(0, 0), py * 8 + px);
        due(name + ": way", x.walk(0, 1), way);
        due(name + ": lost", x.walk(0, 2), 0);
    }

    @Case(promise = 11, says = "NONE: others: another what")
    static void whatOthers() {
        DanceWine x = danced("hall 8 8;", "plain at 3 3 way 1", "ahead");
        int[] none = {-1, 3, -2, 4, MIN, MAX};
        for (int what : none) {
            due("walk(0, " + what + ")", x.walk(0, what), -1);
        }
    }

    @Case(promise = 11, says = "NONE: others: no such GUEST")
    static void noGuest() {
        DanceWine x = danced("hall 8 8;", "plain at 3 3 way 1", "ahead");
        int[] none = {-1, 1, -2, 6, MIN, MAX};
        for (int g : none) {
            for (int what = 0; what < 3; what++) {
                due("walk(" + g + ", " + what + ")", x.walk(g, what), -1);
            }
        }
    }

    @Case(promise = 11, says = "all its STEPS: none at all, it stays where it was told")
    static void noSteps() {
        DanceWine x = cellar("hall 8 8;guest g plain at 7 6 way 3 age 1;");
        due("cell", x.walk(0, 0), 55);
        due("way", x.walk(0, 1), 3);
        due("lost", x.walk(0, 2), 0);
    }

    @Case(promise = 11, says = "ways: 0 north (y more), 1 east (x more), 2 south, 3 west: ahead")
    static void aheadWays() {
        ends("plain at 3 4 way 0", "ahead", 3, 5, 0);
        ends("plain at 3 4 way 1", "ahead", 4, 4, 1);
        ends("plain at 3 4 way 2", "ahead", 3, 3, 2);
        ends("plain at 3 4 way 3", "ahead", 2, 4, 3);
    }

    @Case(promise = 11, says = "hop: two CELLS on, each way")
    static void hopWays() {
        ends("plain at 3 4 way 0", "hop", 3, 6, 0);
        ends("plain at 3 4 way 1", "hop", 5, 4, 1);
        ends("plain at 3 4 way 2", "hop", 3, 2, 2);
        ends("plain at 3 4 way 3", "hop", 1, 4, 3);
    }

    @Case(promise = 11, says = "left: the way is the next one to that side; from north round to west")
    static void leftWraps() {
        for (int way = 0; way < 4; way++) {
            ends("plain at 3 4 way " + way, "left", 3, 4, (way + 3) % 4);
            ends("plain at 3 4 way " + way, "left left left left left", 3, 4, (way + 3) % 4);
        }
    }

    @Case(promise = 11, says = "right: the way is the next one to that side; from west round to north")
    static void rightWraps() {
        for (int way = 0; way < 4; way++) {
            ends("plain at 3 4 way " + way, "right", 3, 4, (way + 1) % 4);
            ends("plain at 3 4 way " + way, "right right right right right", 3, 4, (way + 1) % 4);
        }
    }

    @Case(promise = 11, says = "an uncle: both times he is turned to the other side; round at north and west, too")
    static void uncleTurns() {
        for (int way = 0; way < 4; way++) {
            ends("uncle at 3 4 way " + way, "left", 3, 4, (way + 1) % 4);
            ends("uncle at 3 4 way " + way, "right", 3, 4, (way + 3) % 4);
        }
        ends("uncle at 3 4 way 0", "left ahead right hop rest", 4, 6, 0);
    }

    @Case(promise = 11, says = "rest: nothing")
    static void rests() {
        for (int way = 0; way < 4; way++) {
            ends("plain at 3 4 way " + way, "rest rest", 3, 4, way);
        }
    }

    @Case(promise = 11, says = "Where the hall's end is, one stays where one is: ahead at each side")
    static void aheadAtEnd() {
        String hall = "hall 5 3;";
        ends(hall, "plain at 1 2 way 0", "ahead", 1, 2, 0);
        ends(hall, "plain at 4 1 way 1", "ahead", 4, 1, 1);
        ends(hall, "plain at 1 0 way 2", "ahead", 1, 0, 2);
        ends(hall, "plain at 0 1 way 3", "ahead", 0, 1, 3);
        ends(hall, "plain at 1 1 way 0", "ahead", 1, 2, 0);
        ends(hall, "plain at 3 1 way 1", "ahead", 4, 1, 1);
        ends(hall, "plain at 1 1 way 2", "ahead", 1, 0, 2);
        ends(hall, "plain at 1 1 way 3", "ahead", 0, 1, 3);
    }

    @Case(promise = 11, says = "Where the hall's end is, one stays: at the end of the largest hall, no way round")
    static void aheadAtFarEnd() {
        ends("plain at 7 3 way 1", "ahead", 7, 3, 1);
        ends("plain at 0 3 way 3", "ahead", 0, 3, 3);
        ends("plain at 3 7 way 0", "ahead", 3, 7, 0);
        ends("plain at 3 0 way 2", "ahead", 3, 0, 2);
        ends("plain at 7 3 way 1", "hop", 7, 3, 1);
        ends("plain at 0 3 way 3", "hop", 0, 3, 3);
        ends("plain at 3 7 way 0", "hop", 3, 7, 0);
        ends("plain at 3 0 way 2", "hop", 3, 0, 2);
    }

    @Case(promise = 11, says = "Where the hall's end is, one stays: a hop that has but one CELL is none at all")
    static void hopAtEnd() {
        String hall = "hall 5 4;";
        ends(hall, "plain at 1 2 way 0", "hop", 1, 2, 0);
        ends(hall, "plain at 3 1 way 1", "hop", 3, 1, 1);
        ends(hall, "plain at 1 1 way 2", "hop", 1, 1, 2);
        ends(hall, "plain at 1 1 way 3", "hop", 1, 1, 3);
        ends(hall, "plain at 1 1 way 0", "hop", 1, 3, 0);
        ends(hall, "plain at 2 1 way 1", "hop", 4, 1, 1);
        ends(hall, "plain at 1 2 way 2", "hop", 1, 0, 2);
        ends(hall, "plain at 2 1 way 3", "hop", 0, 1, 3);
    }

    @Case(promise = 11, says = "Where a pillar is, one stays where one is: ahead, each way")
    static void aheadAtPillar() {
        String hall = "hall 8 8;pillar 3 5;pillar 4 4;pillar 3 3;pillar 2 4;";
        for (int way = 0; way < 4; way++) {
            ends(hall, "plain at 3 4 way " + way, "ahead ahead", 3, 4, way);
        }
    }

    @Case(promise = 11, says = "hop: over the first one, whatever is there: a pillar, each way")
    static void hopOverPillar() {
        String hall = "hall 8 8;pillar 3 5;pillar 4 4;pillar 3 3;pillar 2 4;";
        ends(hall, "plain at 3 4 way 0", "hop", 3, 6, 0);
        ends(hall, "plain at 3 4 way 1", "hop", 5, 4, 1);
        ends(hall, "plain at 3 4 way 2", "hop", 3, 2, 2);
        ends(hall, "plain at 3 4 way 3", "hop", 1, 4, 3);
    }

    @Case(promise = 11, says = "Where a pillar is, one stays: a hop that would end on one, each way")
    static void hopOntoPillar() {
        String hall = "hall 8 8;pillar 3 6;pillar 5 4;pillar 3 2;pillar 1 4;";
        for (int way = 0; way < 4; way++) {
            ends(hall, "plain at 3 4 way " + way, "hop", 3, 4, way);
        }
    }

    @Case(promise = 11, says = "hop (a lame one: as ahead): one CELL, not over a pillar, to the hall's end")
    static void lameHops() {
        ends("lame at 3 4 way 0", "hop", 3, 5, 0);
        ends("lame at 3 4 way 0", "hop ahead hop", 3, 7, 0);
        ends("lame at 3 6 way 0", "hop", 3, 7, 0);
        ends("lame at 3 7 way 0", "hop", 3, 7, 0);
        ends("hall 8 8;pillar 3 5;", "lame at 3 4 way 0", "hop", 3, 4, 0);
        ends("hall 8 8;pillar 3 6;", "lame at 3 4 way 0", "hop", 3, 5, 0);
    }

    @Case(promise = 11, says = "a waiter none at all: he stays, and loses none")
    static void waiterStays() {
        DanceWine x = cellar("hall 8 8;dance d ahead left hop;wine w glasses 9 of d 1;guest g waiter at 3 4 way 2 age 1;"
                + "stagger 1;");
        pour(x, 0, 0, 0);
        due("cell", x.walk(0, 0), 35);
        due("way", x.walk(0, 1), 2);
        due("lost", x.walk(0, 2), 0);
    }

    @Case(promise = 11, says = "an old one those of its last glass first: with one glass, two, six")
    static void oldOnes() {
        DanceWine x = cellar("hall 8 8;dance a ahead;dance r right;wine w glasses 9 of a 1;wine v glasses 9 of r 1;"
                + "wine u glasses 9 of a 1 r 1;guest o old at 0 0 way 0 age 0;guest p plain at 0 0 way 0 age 0;");
        pour(x, 0, 2);
        due("one glass: its STEPS in their order", x.walk(0, 0), 8);
        due("its way", x.walk(0, 1), 1);
        x.water(0);
        pour(x, 0, 0, 1);
        pour(x, 1, 0, 1);
        due("two: right, ahead", x.walk(0, 0), 1);
        due("a plain one: ahead, right", x.walk(1, 0), 8);
        pour(x, 0, 0, 0, 1, 0);
        // drunk: a r a a r a; danced: a r a a r a backwards: a r a a r a
        due("six", x.walk(0, 0), 2);
        due("its way", x.walk(0, 1), 2);
    }

    @Case(promise = 11, says = "A STEP that is LOST is as if it were rest: each STEP")
    static void lostSteps() {
        for (String step : "ahead hop left right rest".split(" ")) {
            DanceWine x = cellar("hall 8 8;dance d " + step + ";wine w glasses 9 of d 1;guest g plain at 3 4 way 2 age 1;"
                    + "stagger 1;");
            pour(x, 0, 0);
            due(step + ": cell", x.walk(0, 0), 35);
            due(step + ": way", x.walk(0, 1), 2);
            due(step + ": lost", x.walk(0, 2), 1);
        }
    }

    @Case(promise = 11, says = "how many STEPS were LOST: none, all of 576; one who could not go has not lost it")
    static void howManyLost() {
        DanceWine x = cellar("hall 2 2;dance a hop hop hop hop hop hop hop hop;dance b hop hop hop hop hop hop hop hop;"
                + "dance c hop hop hop hop hop hop hop hop;wine w glasses 9 of a 4 b 4 c 4;"
                + "guest g plain at 0 0 way 0 age 0;guest h plain at 0 0 way 0 age 1;stagger age;");
        pour(x, 0, 0, 0, 0, 0);
        pour(x, 1, 0, 0, 0, 0);
        due("none", x.walk(0, 2), 0);
        due("all of four glasses", x.walk(1, 2), 384);
        x = cellar("hall 2 2;dance a hop hop hop hop hop hop hop hop;dance b hop hop hop hop hop hop hop hop;"
                + "dance c hop hop hop hop hop hop hop hop;wine w glasses 9 of a 4 b 4 c 4;"
                + "guest g plain at 0 0 way 0 age 0;stagger 1;");
        pour(x, 0, 0, 0, 0, 0, 0, 0);
        due("all of six glasses", x.walk(0, 2), 576);
    }

    @Case(promise = 11, says = "from where it was told, by itself: others are not in the way, nor does it move")
    static void byItself() {
        DanceWine x = cellar("hall 8 2;dance d ahead;wine w glasses 9 of d 3;guest g plain at 0 0 way 1 age 0;"
                + "guest h plain at 1 0 way 1 age 0;");
        pour(x, 0, 0);
        due("through another", x.walk(0, 0), 3);
        due("the same again", x.walk(0, 0), 3);
        due("told", x.guest(0, 1), 0);
    }
}
