/** Promises 18 (couples), 19 (quarrel), 20 (found), 21 (see), 22 (read) and 23 (dance). */
public final class CompanyTest {
    private static final Check CHECK = new Check("CompanyTest");

    public static void main(String[] args) {
        couples();
        quarrels();
        found();
        seeing();
        reading();
        readingKinds();
        CHECK.end();
    }

    private static void couples() {
        DanceWine x = Check.cellar("hall 8 8;dance a ahead;dance l left;wine one glasses 0 of a 1;wine turn glasses 0 of l 1;"
                + "wine far glasses 1 of a 2;guest p plain at 0 0 way 1 age 0;guest q plain at 3 0 way 3 age 0;"
                + "guest r waiter at 1 1 way 0 age 0;guest s plain at 7 7 way 0 age 0;guest t plain at 7 7 way 2 age 0;");
        // one: p 1,0; q 2,0; r 1,1; s 7,7; t 7,6
        CHECK.due("next to one another", x.couples(0), 3);
        // turn: p 0,0; q 3,0; r 1,1; s and t 7,7
        CHECK.due("in one cell", x.couples(1), 1);
        // far: p 2,0; q 1,0; r 1,1; s 7,7; t 7,5
        CHECK.due("crossing", x.couples(2), 2);
        CHECK.due("no such wine", x.couples(3), -1);
        CHECK.due("no such wine, below", x.couples(-1), -1);
        x.pour(0, 2);
        CHECK.due("one glass of it alone", x.couples(0), 3);
        x = Check.cellar("hall 8 8;dance a ahead;wine one glasses 0 of a 1;guest p plain at 0 0 way 1 age 0;"
                + "guest q plain at 3 0 way 3 age 9;stagger drunk=1 and glass=0 and age=0;");
        CHECK.due("p stands, q comes", x.couples(0), 0);
        x = Check.cellar("hall 8 8;dance a ahead;wine one glasses 0 of a 1;");
        CHECK.due("no guests", x.couples(0), 0);
        x = Check.cellar("hall 8 8;dance a rest;wine one glasses 0 of a 1;guest p plain at 0 0 way 1 age 0;"
                + "guest q plain at 1 1 way 3 age 9;guest r plain at 7 1 way 0 age 0;"
                + "guest s plain at 0 2 way 0 age 0;");
        CHECK.due("aslant is not next, nor is the other end", x.couples(0), 0);
        StringBuilder six = new StringBuilder("hall 2 2;dance r rest;wine w glasses 0 of r 1;");
        for (char c = 'a'; c < 'g'; c++) {
            six.append("guest g").append(c).append(" plain at 1 0 way 0 age 0;");
        }
        CHECK.due("six in one cell", Check.cellar(six.toString()).couples(0), 15);
    }

    private static void quarrels() {
        DanceWine x = Check.cellar("hall 2 2;dance l left;dance r right;dance o rest;dance m left right;"
                + "wine w glasses 0 of l 4;wine v glasses 0 of r 2 l 2;wine u glasses 0 of r 3;wine t glasses 0 of m 2;"
                + "wine s glasses 0 of o 1 r 1;wine q glasses 0 of r 1 l 1;");
        quarrel(x, 0, 1, false);
        quarrel(x, 0, 2, true);
        quarrel(x, 0, 3, false);
        quarrel(x, 0, 4, false);
        quarrel(x, 1, 2, false);
        // left right left against right right right: two of three
        quarrel(x, 3, 2, true);
        // left right against right left: both, one this way, one that way
        quarrel(x, 3, 5, true);
        quarrel(x, 0, 0, false);
        quarrel(x, 2, 2, false);
        quarrel(x, 0, 6, false);
        quarrel(x, 0, -1, false);
    }

    private static void quarrel(DanceWine x, int one, int other, boolean want) {
        CHECK.due("quarrel(" + one + ", " + other + ")", x.quarrel(one, other), want);
        CHECK.due("quarrel(" + other + ", " + one + ")", x.quarrel(other, one), want);
    }

    private static void found() {
        String text = "hall 8 8;dance a ahead left;dance b ahead;dance c rest left;dance d ahead left ahead;dance e hop;"
                + "wine w glasses 9 of a 1;wine v glasses 9 of b 1;wine u glasses 9 of e 1;"
                + "guest p plain at 0 0 way 0 age 0;guest q waiter at 0 0 way 0 age 0;guest r lame at 0 0 way 0 age 0;"
                + "guest s uncle at 0 0 way 0 age 0;guest t old at 0 0 way 0 age 9;";
        DanceWine x = Check.cellar(text);
        for (int d = 0; d < 5; d++) {
            CHECK.due("nobody has drunk", x.found(d), 0);
        }
        for (int g = 0; g < 5; g++) {
            x.pour(g, 0);
        }
        CHECK.due("a", x.found(0), 1 + 4 + 8 + 16);
        CHECK.due("b, which is shorter", x.found(1), 1 + 4 + 8 + 16);
        CHECK.due("d, which is longer", x.found(3), 0);
        x.pour(0, 1);
        x.pour(4, 1);
        CHECK.due("d over two glasses", x.found(3), 1);
        CHECK.due("the old one's last first", x.found(0), 1 + 4 + 8);
        x.water(2);
        x.pour(2, 2);
        CHECK.due("a lame one's hop is a hop", x.found(4), 4);
        CHECK.due("not ahead", x.found(1), 1 + 8 + 16);
        CHECK.due("no such dance", x.found(5), -1);
        CHECK.due("no such dance, below", x.found(-1), -1);
        x = Check.cellar(text + "stagger age=9 and step=0;");
        x.pour(0, 0);
        x.pour(4, 0);
        CHECK.due("lost ones are rest", x.found(2), 16);
        CHECK.due("and nothing else", x.found(0), 1);
    }

    private static void seeing() {
        DanceWine x = Check.cellar("hall 5 4;pillar 1 1;guest p plain at 0 0 way 0 age 0;guest q plain at 4 3 way 0 age 0;");
        CHECK.due("nobody is seen", x.read(1), -1);
        CHECK.due("nobody is seen", x.dance(1, 0), -1);
        CHECK.due("no such guest", x.see(2, 0, 0), false);
        CHECK.due("no such guest, below", x.see(-1, 0, 0), false);
        CHECK.due("no such guest, not any more", x.see(2, -1, 0), false);
        CHECK.due("x beyond", x.see(0, 5, 0), false);
        CHECK.due("x below", x.see(0, -2, 0), false);
        CHECK.due("y beyond", x.see(0, 0, 4), false);
        CHECK.due("y below", x.see(0, 0, -1), false);
        CHECK.due("none is seen", x.count(6), 0);
        CHECK.due("not any more, though it was not", x.see(0, -1, 0), true);
        CHECK.due("seen", x.see(0, 4, 3), true);
        CHECK.due("seen again", x.see(0, 0, 1), true);
        CHECK.due("one", x.count(6), 1);
        CHECK.due("in a pillar", x.see(1, 1, 1), true);
        CHECK.due("two", x.count(6), 2);
        CHECK.due("by no row", x.read(3), 0);
        CHECK.due("not any more, any y", x.see(1, -1, 77), true);
        CHECK.due("one", x.count(6), 1);
        CHECK.due("wrong ones leave it", x.see(0, 9, 9), false);
        CHECK.due("the newer cell", x.read(1), 1);
        CHECK.due("nothing to undo", x.undo(), false);
    }

    private static void reading() {
        DanceWine x = Check.cellar("hall 5 4;guest p plain at 0 0 way 0 age 0;guest q plain at 4 0 way 1 age 0;stagger 1;");
        x.see(0, 0, 2);
        CHECK.due("one step: hop", x.read(1), 1);
        CHECK.due("it", x.dance(1, 0), 1);
        CHECK.due("no second", x.dance(1, 1), -1);
        CHECK.due("below", x.dance(1, -1), -1);
        // ahead ahead; hop, and again beyond the end; hop left, hop right, hop rest; rest hop
        int[] want = {0, 5 + 1, 5 + 2, 5 + 3, 5 + 4, 20 + 1};
        CHECK.due("two steps", x.read(2), want.length);
        for (int i = 0; i < want.length; i++) {
            CHECK.due("two steps, " + i, x.dance(2, i), want[i]);
        }
        CHECK.due("no more", x.dance(2, want.length), -1);
        // q stays at the wall by ahead and hop; it turns left first: ahead one
        x.see(1, 4, 0);
        CHECK.due("both: all of these", x.read(2), 6);
        x.see(1, 4, 1);
        CHECK.due("both: none", x.read(2), 0);
        CHECK.due("both: none such", x.dance(2, 0), -1);
        // p: hop left ahead (west: the wall); q: left, ahead north: p 0,2 and q 4,1
        CHECK.due("three steps", x.read(3), 1);
        CHECK.due("hop left ahead", x.dance(3, 0), 25 + 10);
        x.see(1, -1, 0);
        x.see(0, 0, 0);
        CHECK.due("five of them", x.read(5) > 100, true);
        CHECK.due("the last is all rest", x.dance(5, x.read(5) - 1), 3124);
        CHECK.due("0 steps", x.read(0), -1);
        CHECK.due("6 steps", x.read(6), -1);
        CHECK.due("below", x.read(-1), -1);
        CHECK.due("0 steps", x.dance(0, 0), -1);
        CHECK.due("6 steps", x.dance(6, 0), -1);
        CHECK.due("far", x.dance(5, Integer.MAX_VALUE), -1);
    }

    private static void readingKinds() {
        DanceWine x = Check.cellar("hall 8 8;pillar 0 1;guest l lame at 3 3 way 0 age 0;guest u uncle at 3 3 way 0 age 0;"
                + "guest w waiter at 3 3 way 0 age 0;guest o old at 3 3 way 0 age 0;guest p plain at 0 0 way 0 age 0;");
        x.see(0, 3, 4);
        CHECK.due("lame: ahead or hop", x.read(1), 2);
        CHECK.due("lame: hop", x.dance(1, 1), 1);
        x.see(0, -1, 0);
        x.see(1, 4, 3);
        CHECK.due("uncle: left ahead", x.read(2), 1);
        CHECK.due("uncle: it", x.dance(2, 0), 10);
        x.see(1, -1, 0);
        x.see(3, 2, 3);
        CHECK.due("old: left ahead", x.dance(2, 0), 10);
        x.see(3, -1, 0);
        x.see(2, 3, 3);
        CHECK.due("a waiter takes none", x.read(3), 125);
        x.see(2, 3, 4);
        CHECK.due("and comes nowhere", x.read(3), 0);
        x.see(2, -1, 0);
        x.see(4, 0, 0);
        CHECK.due("plain, ahead of a pillar: all but hop", x.read(1), 4);
        x.see(4, 0, 2);
        CHECK.due("over it", x.dance(1, 0), 1);
    }
}
