/** Promises 11 (walk) and 12 (ball). */
public final class WalkingTest {
    private static final Check CHECK = new Check("WalkingTest");

    public static void main(String[] args) {
        turnsAndSteps();
        pillarsAndEnds();
        kinds();
        oldOnes();
        stagger();
        lawValues();
        ballTogether();
        ballDraws();
        ballWrong();
        CHECK.end();
    }

    /** A hall of 8 by 8 with one guest at 3, 3 that has one glass of a dance. */
    private static DanceWine danced(String kind, int way, String steps, String more) {
        DanceWine x = Check.cellar("hall 8 8;dance d " + steps + ";wine w glasses 9 of d 1;guest g " + kind
                + " at 3 3 way " + way + " age 40;" + more);
        x.pour(0, 0);
        return x;
    }

    private static void ends(String name, DanceWine x, int px, int py, int way, int lost) {
        CHECK.due(name + ": cell", x.walk(0, 0), py * 8 + px);
        CHECK.due(name + ": way", x.walk(0, 1), way);
        CHECK.due(name + ": lost", x.walk(0, 2), lost);
    }

    private static void turnsAndSteps() {
        ends("north", danced("plain", 0, "ahead", ""), 3, 4, 0, 0);
        ends("east", danced("plain", 1, "ahead", ""), 4, 3, 1, 0);
        ends("south", danced("plain", 2, "ahead", ""), 3, 2, 2, 0);
        ends("west", danced("plain", 3, "ahead", ""), 2, 3, 3, 0);
        ends("hop north", danced("plain", 0, "hop", ""), 3, 5, 0, 0);
        ends("hop west", danced("plain", 3, "hop", ""), 1, 3, 3, 0);
        ends("left of north", danced("plain", 0, "left", ""), 3, 3, 3, 0);
        ends("left of east", danced("plain", 1, "left", ""), 3, 3, 0, 0);
        ends("right of north", danced("plain", 0, "right", ""), 3, 3, 1, 0);
        ends("right of west", danced("plain", 3, "right", ""), 3, 3, 0, 0);
        ends("rest", danced("plain", 2, "rest", ""), 3, 3, 2, 0);
        ends("a row", danced("plain", 0, "ahead right hop right rest ahead left ahead", ""), 6, 3, 1, 0);
        DanceWine x = danced("plain", 0, "ahead", "");
        CHECK.due("what 3", x.walk(0, 3), -1);
        CHECK.due("what -1", x.walk(0, -1), -1);
        CHECK.due("no guest", x.walk(1, 0), -1);
        CHECK.due("no guest, below", x.walk(-1, 0), -1);
        x.water(0);
        ends("nothing drunk", x, 3, 3, 0, 0);
    }

    private static void pillarsAndEnds() {
        ends("into a pillar", danced("plain", 0, "ahead right ahead", "pillar 3 4;"), 4, 3, 1, 0);
        ends("hop over a pillar", danced("plain", 0, "hop", "pillar 3 4;"), 3, 5, 0, 0);
        ends("hop onto a pillar", danced("plain", 0, "hop", "pillar 3 5;"), 3, 3, 0, 0);
        ends("hop to the end", danced("plain", 2, "ahead hop", ""), 3, 0, 2, 0);
        ends("hop beyond the end", danced("plain", 2, "ahead ahead hop", ""), 3, 1, 2, 0);
        ends("ahead beyond the end", danced("plain", 3, "ahead hop ahead", ""), 0, 3, 3, 0);
        ends("hop beyond at the end", danced("plain", 3, "hop ahead hop", ""), 0, 3, 3, 0);
        DanceWine x = Check.cellar("hall 3 2;dance d ahead hop;wine w glasses 9 of d 4;"
                + "guest g plain at 0 0 way 1 age 0;guest h plain at 0 0 way 0 age 0;guest i plain at 1 0 way 0 age 0;");
        x.pour(0, 0);
        x.pour(1, 0);
        CHECK.due("the hall is 3 wide", x.walk(0, 0), 2);
        CHECK.due("the hall is 2 deep", x.walk(1, 0), 8);
        CHECK.due("by itself: others are not in the way", x.walk(0, 0), 2);
    }

    private static void kinds() {
        ends("waiter", danced("waiter", 0, "ahead left hop", "stagger 1;"), 3, 3, 0, 0);
        ends("lame", danced("lame", 0, "hop left ahead hop", ""), 1, 4, 3, 0);
        ends("lame: hop is not over", danced("lame", 0, "hop", "pillar 3 4;"), 3, 3, 0, 0);
        ends("uncle left", danced("uncle", 0, "left hop", ""), 5, 3, 1, 0);
        ends("uncle right", danced("uncle", 0, "right ahead", ""), 2, 3, 3, 0);
        ends("old", danced("old", 0, "right ahead", ""), 4, 3, 1, 0);
    }

    private static void oldOnes() {
        String text = "hall 8 8;dance a ahead ahead;dance b right;wine w glasses 9 of a 1;wine v glasses 9 of b 1;"
                + "guest o old at 0 0 way 0 age 0;guest p plain at 0 0 way 0 age 0;";
        DanceWine x = Check.cellar(text);
        for (int g = 0; g < 2; g++) {
            x.pour(g, 0);
            x.pour(g, 1);
            x.pour(g, 0);
            x.pour(g, 1);
        }
        CHECK.due("old: right, ahead, right, ahead", x.walk(0, 0), 2);
        CHECK.due("old: way", x.walk(0, 1), 2);
        CHECK.due("plain: ahead, right, ahead, right", x.walk(1, 0), 18);
        CHECK.due("plain: way", x.walk(1, 1), 2);
        // each glass keeps its steps in their order
        x = Check.cellar("hall 8 8;dance a ahead right;dance b hop;wine w glasses 9 of a 1 b 1;"
                + "guest o old at 0 0 way 0 age 0;");
        x.pour(0, 0);
        CHECK.due("one glass", x.walk(0, 0), 10);
        // the glass's number is by what it drank, not by what it dances
        x = Check.cellar(text + "stagger glass=0;");
        x.pour(0, 1);
        x.pour(0, 0);
        x.pour(0, 0);
        CHECK.due("the first glass is lost", x.walk(0, 0), 32);
        CHECK.due("its way", x.walk(0, 1), 0);
        CHECK.due("one step lost", x.walk(0, 2), 1);
    }

    private static void stagger() {
        ends("all lost", danced("plain", 0, "ahead left rest", "stagger 1;"), 3, 3, 0, 3);
        ends("none lost", danced("plain", 0, "ahead left", "stagger 0;"), 3, 4, 3, 0);
        ends("by step", danced("plain", 0, "ahead left ahead", "stagger step=1;"), 3, 5, 0, 1);
        ends("by age", danced("plain", 0, "ahead", "stagger age=40;"), 3, 3, 0, 1);
        ends("below 0 is so", danced("plain", 0, "ahead", "stagger 0-1;"), 3, 3, 0, 1);
        DanceWine x = danced("plain", 0, "ahead", "stagger drunk=2;");
        ends("one drunk", x, 3, 4, 0, 0);
        x.pour(0, 0);
        ends("two drunk", x, 3, 3, 0, 2);
        x.pour(0, 0);
        ends("three drunk", x, 3, 6, 0, 0);
        x = danced("plain", 0, "ahead", "stagger glass=1;");
        x.pour(0, 0);
        ends("the second glass", x, 3, 4, 0, 1);
        String five = "hall 8 8;dance d ahead ahead;dance e ahead;wine w glasses 9 of d 2 e 1;"
                + "guest g plain at 0 0 way 0 age 0;";
        x = Check.cellar(five + "stagger step=4 or(glass=1 and step<2);");
        x.pour(0, 0);
        x.pour(0, 0);
        ends("step counts on in a glass", x, 0, 6, 0, 4);
        x = Check.cellar(five + "stagger step=4 or glass=1 and step<3;");
        x.pour(0, 0);
        x.pour(0, 0);
        ends("and, or from the left", x, 0, 7, 0, 3);
    }

    /** Whether a law is so for the one step of the second of three glasses, of a guest aged 40. */
    private static void law(String law, boolean so) {
        DanceWine x = Check.cellar("hall 8 8;dance d rest rest rest rest rest;wine w glasses 9 of d 1;"
                + "guest g plain at 3 3 way 0 age 40;stagger glass=1 and step=4 and(" + law + ");");
        x.pour(0, 0);
        x.pour(0, 0);
        x.pour(0, 0);
        CHECK.due("law: " + law, x.walk(0, 2), so ? 1 : 0);
    }

    private static void lawValues() {
        law("glass=1", true);
        law("step=4", true);
        law("age=40", true);
        law("drunk=3", true);
        law("1+2*3=7", true);
        law("2*3+1=7", true);
        law("(1+2)*3=9", true);
        law("9-3-2=4", true);
        law("9-3+2=8", true);
        law("2<3", true);
        law("3<3", false);
        law("0-1<0", true);
        law("0-1", true);
        law("1-1", false);
        law("(5 and 2)=1", true);
        law("(0 or 7)=1", true);
        law("(0 or 0)=0", true);
        law("1 or 0 and 0", false);
        law("0 and 0 or 1", true);
        law("0 and(0 or 1)", false);
        law("not 5", false);
        law("not 0", true);
        law("(not 0)+(not 7)=1", true);
        law("not 1<1", true);
        law("not(1<1)", true);
        law("not 0+1=2", true);
        law("not not 5=1", true);
        law("not 2*3=0", true);
        law("9999*9999*9999<0", 9999 * 9999 * 9999 < 0);
        law("9999*9999*23<0", 9999 * 9999 * 23 < 0);
    }

    private static void ballTogether() {
        // two meet: the first in order goes first, so the second can't come in
        DanceWine x = Check.cellar("hall 5 2;dance d ahead;wine w glasses 9 of d 1;wine v glasses 9 of d 3;"
                + "guest g plain at 0 0 way 1 age 0;guest h plain at 2 0 way 3 age 0;guest i waiter at 4 0 way 0 age 0;"
                + "guest j plain at 3 1 way 1 age 0;");
        CHECK.due("no step at all", x.ball(0, 0, -1), 0);
        CHECK.due("all are at home", x.ball(3, 17, 1), 2);
        x.pour(0, 0);
        x.pour(1, 0);
        CHECK.due("one beat", x.ball(0, 0, -1), 1);
        CHECK.due("g comes", x.ball(0, 0, 0), 1);
        CHECK.due("h stays", x.ball(0, 0, 1), 2);
        x.pour(2, 1);
        CHECK.due("a waiter has no beat", x.ball(0, 0, -1), 1);
        x.pour(3, 1);
        CHECK.due("three beats", x.ball(0, 0, -1), 3);
        CHECK.due("j comes to the end", x.ball(0, 0, 3), 12);
        CHECK.due("the waiter stands", x.ball(0, 0, 2), 4);

        // a waiter is in the way; one hops over him, but not onto him
        x = Check.cellar("hall 6 2;dance a ahead;dance b hop;wine w glasses 9 of a 1;wine v glasses 9 of b 1;"
                + "guest g plain at 0 0 way 1 age 0;guest h waiter at 1 0 way 0 age 0;guest i waiter at 4 0 way 0 age 0;");
        x.pour(0, 0);
        CHECK.due("ahead into one", x.ball(0, 0, 0), 0);
        x.pour(0, 1);
        CHECK.due("hop over one", x.ball(0, 0, 0), 2);
        x.pour(0, 1);
        CHECK.due("hop onto one", x.ball(0, 0, 0), 2);
        CHECK.due("the walk is by itself", x.walk(0, 0), 5);

        // two told in one cell: both may leave it, and the second can come where the first was
        x = Check.cellar("hall 6 2;dance a ahead;wine w glasses 9 of a 1;"
                + "guest g plain at 0 0 way 1 age 0;guest h plain at 0 0 way 1 age 0;");
        x.pour(0, 0);
        x.pour(0, 0);
        x.pour(1, 0);
        x.pour(1, 0);
        CHECK.due("g", x.ball(0, 0, 0), 2);
        CHECK.due("h: blocked once", x.ball(0, 0, 1), 1);
    }

    private static void ballDraws() {
        int steps = 0;
        long g = 77;
        int cell = 0;
        StringBuilder told = new StringBuilder();
        for (int n = 0; n < 12; n++) {
            g = (g * 1103515245L + 12345L) % 2147483648L;
            long draw = g / 65536 % 8;
            told.append(draw);
            if (draw >= 4 && steps < 7) {
                steps++;
                cell += 8;
            }
        }
        DanceWine x = Check.cellar("hall 2 8;dance a ahead ahead;wine w glasses 9 of a 1;"
                + "guest g plain at 0 0 way 0 age 0;");
        for (int n = 0; n < 6; n++) {
            x.pour(0, 0);
        }
        CHECK.due("the draws " + told, x.ball(4, 77, 0), cell);
        CHECK.due("no hiccup", x.ball(0, 77, 0), 56);
        CHECK.due("all lost", x.ball(8, 77, 0), 0);
        CHECK.due("the beats stay", x.ball(8, 77, -1), 12);
        CHECK.due("the walk has none", x.walk(0, 0), 56);

        // a lost step has its draw, too: the same draws, every second step lost
        int want = 0;
        g = 5;
        for (int n = 0; n < 12; n++) {
            g = (g * 1103515245L + 12345L) % 2147483648L;
            if (g / 65536 % 8 >= 3 && n % 2 == 1) {
                want += 8;
            }
        }
        x = Check.cellar("hall 2 8;dance a ahead ahead;wine w glasses 9 of a 1;"
                + "guest g plain at 0 0 way 0 age 0;stagger step=0;");
        for (int n = 0; n < 6; n++) {
            x.pour(0, 0);
        }
        CHECK.due("lost ones are drawn, too", x.ball(3, 5, 0), want);

        // with two, the draws go round
        int[] rows = new int[2];
        g = 1234;
        for (int n = 0; n < 6; n++) {
            for (int k = 0; k < (n < 2 ? 2 : 1); k++) {
                g = (g * 1103515245L + 12345L) % 2147483648L;
                if (g / 65536 % 8 >= 5) {
                    rows[k]++;
                }
            }
        }
        x = Check.cellar("hall 2 8;dance a ahead ahead;wine w glasses 9 of a 1;"
                + "guest g plain at 0 0 way 0 age 0;guest h plain at 1 0 way 0 age 0;");
        for (int n = 0; n < 3; n++) {
            x.pour(0, 0);
        }
        x.pour(1, 0);
        CHECK.due("the first of two", x.ball(5, 1234, 0), rows[0] * 8);
        CHECK.due("the second of two", x.ball(5, 1234, 1), rows[1] * 8 + 1);
    }

    private static void ballWrong() {
        DanceWine x = danced("plain", 0, "ahead", "");
        CHECK.due("hiccup -1", x.ball(-1, 0, -1), -2);
        CHECK.due("hiccup 9", x.ball(9, 0, -1), -2);
        CHECK.due("seed -1", x.ball(0, -1, -1), -2);
        CHECK.due("seed 10000", x.ball(0, 10000, -1), -2);
        CHECK.due("seed 9999", x.ball(0, 9999, -1), 1);
        CHECK.due("no such guest", x.ball(0, 0, 1), -2);
        CHECK.due("what -2", x.ball(0, 0, -2), -2);
        CHECK.due("guest 0", x.ball(0, 0, 0), 35);
    }
}
