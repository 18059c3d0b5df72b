/** Promises 1 (a new object), 2 (feed), 3 (cellar with its faults) and 25 (count). */
public final class TellingTest {
    private static final Check CHECK = new Check("TellingTest");
    private static final String SIX_DANCES = "hall 4 4;dance a rest;dance b rest;dance c rest;dance d rest;dance e rest;"
            + "dance f rest;";

    public static void main(String[] args) {
        newObject();
        feeding();
        telling();
        faultStays();
        lines();
        wines();
        guests();
        laws();
        tokens();
        tellingAnew();
        CHECK.end();
    }

    private static void newObject() {
        DanceWine x = new DanceWine();
        int[] want = {2, 2, 0, 0, 0, 0, 0, 0, 0, 0};
        for (int what = 0; what < want.length; what++) {
            CHECK.due("new: count(" + what + ")", x.count(what), want[what]);
        }
        CHECK.due("count(-1)", x.count(-1), -1);
        CHECK.due("count(10)", x.count(10), -1);
        CHECK.due("count(min)", x.count(Integer.MIN_VALUE), -1);
        CHECK.due("NONE", DanceWine.NONE, -1);
        CHECK.due("guest", x.guest(0, 0), -1);
        CHECK.due("step", x.step(0, 0), -1);
        CHECK.due("wine", x.wine(0, 0), -1);
        CHECK.due("walk", x.walk(0, 0), -1);
        CHECK.due("found", x.found(0), -1);
        CHECK.due("see", x.see(0, 0, 0), false);
        CHECK.due("pour", x.pour(0, 0), false);
    }

    private static void feeding() {
        DanceWine x = new DanceWine();
        CHECK.due("nothing but 0", x.feed(0, 0, 0), 0);
        // a TAB, 10, 31, 32, 126, 127, 128, 255
        CHECK.due("signs that are none", x.feed(0x090a1f207e7f80ffL, 0, 0), 3);
        CHECK.due("all of 255", x.feed(-1, -1, -1), 3);
        CHECK.due("count(9)", x.count(9), 3);
        // what is fed: 10, 32, ~
        CHECK.due("the fault at ~", x.cellar(), 1 + 16 * 2);
        CHECK.due("the tape is taken", x.count(9), 0);
        // the highest byte first, a ahead of b ahead of c
        x.feed(0x68616c6c20322033L, 0x3b6361727269616cL, 0);
        CHECK.due("hall 2 3;carrial", x.cellar(), 1 + 16 * 9);
        CHECK.due("hall 2 3", x.feed(0x68616c6cL, 0x20322033L, 0x3bL), 9);
        CHECK.due("is read", x.cellar(), 0);
        CHECK.due("wide", x.count(0), 2);
        CHECK.due("deep", x.count(1), 3);

        String many = "hall 3 3;" + " ".repeat(991);
        Check.feed(x, many.substring(0, 984));
        CHECK.due("984 signs", x.count(9), 984);
        long[] p = Check.signs("                ;;;;;;;;", 0);
        CHECK.due("what is beyond 1,000 is left out", x.feed(p[0], p[1], p[2]), 1000);
        CHECK.due("and again", x.feed(p[0], p[1], p[2]), 1000);
        CHECK.due("so it has no fault", x.cellar(), 0);
        Check.feed(x, "hall 3 3 " + " ".repeat(1000));
        CHECK.due("the end is at 1,000", x.cellar(), 1 + 16 * 1000);
    }

    private static void telling() {
        DanceWine x = Check.cellar("hall 8 2;pillar 0 0;dance glass ahead hop left right rest ahead ahead ahead;"
                + "dance step rest;wine drunk glasses 99 of glass 4 step 1;wine w glasses 0 of step 4;"
                + "guest g plain at 7 1 way 3 age 99;guest h old at 7 1 way 0 age 0;stagger(age<50);\n");
        int[] want = {8, 2, 2, 2, 2, 99, 0, 0, 0, 0};
        for (int what = 0; what < want.length; what++) {
            CHECK.due("told: count(" + what + ")", x.count(what), want[what]);
        }
        x = Check.cellar("hall 8 8;guest a lame at 7 7 way 0 age 0;carriage 7 7;pillar 0 0;");
        CHECK.due("the carriage where a guest is", x.count(8), 63);
        x = Check.cellar("hall0002 2;");
        CHECK.due("zeros ahead", x.count(0), 2);
    }

    private static void faultStays() {
        DanceWine x = Check.cellar("hall 5 4;dance d ahead;wine w glasses 3 of d 1;guest g plain at 1 1 way 0 age 7;");
        x.pour(0, 0);
        x.see(0, 1, 2);
        x.mark(2, false);
        Check.feed(x, "hall 6 6;dance e hop;guest h old at 5 5 way 1 age 8;guest i old at 5 5 way 1 age 8;x");
        CHECK.due("a fault", x.cellar(), 1 + 16 * 83);
        int[] want = {5, 4, 1, 1, 1, 2, 1, 1, 0, 0};
        for (int what = 0; what < want.length; what++) {
            CHECK.due("behind a fault: count(" + what + ")", x.count(what), want[what]);
        }
        CHECK.due("step stays", x.step(0, 0), 0);
        CHECK.due("walk stays", x.walk(0, 0), 17);
        CHECK.due("mark stays", x.mark(2, true), true);
        CHECK.due("empty tape", x.cellar(), 1);
    }

    private static void tellingAnew() {
        String text = "hall 5 4;dance d ahead;wine w glasses 3 of d 1;guest g plain at 1 1 way 0 age 7;stagger 1;";
        DanceWine x = Check.cellar(text);
        x.pour(0, 0);
        x.see(0, 1, 2);
        x.mark(0, false);
        CHECK.due("told anew", Check.told(x, text), 0);
        CHECK.due("nobody has drunk", x.guest(0, 4), 0);
        CHECK.due("all glasses", x.count(5), 3);
        CHECK.due("nothing is seen", x.count(6), 0);
        CHECK.due("nothing can be undone", x.undo(), false);
        CHECK.due("no mark is there", x.mark(0, true), false);
        CHECK.due("told without a law", Check.told(x, text.replace("stagger 1;", "")), 0);
        x.pour(0, 0);
        CHECK.due("the old law is gone", x.walk(0, 2), 0);
        CHECK.due("a hall alone", Check.told(x, "hall 3 2;"), 0);
        int[] want = {3, 2, 0, 0, 0, 0, 0, 0, 0, 0};
        for (int what = 0; what < want.length; what++) {
            CHECK.due("hall alone: count(" + what + ")", x.count(what), want[what]);
        }
    }

    /** The text has ^ ahead of the token that is wrong. */
    private static void fault(int kind, String marked) {
        String text = marked.replace("^", "");
        DanceWine x = new DanceWine();
        CHECK.due(marked, Check.told(x, text), kind + 16 * marked.indexOf('^'));
    }

    private static void fine(String text) {
        CHECK.due(text, Check.told(new DanceWine(), text), 0);
    }

    private static void lines() {
        fault(1, "^");
        fault(1, "  \n ^");
        fault(1, "^;");
        fault(1, "^pillar 1 1;");
        fault(1, "^dance d rest;");
        fault(1, "^4");
        fault(1, "hall^");
        fault(1, "hall ^x");
        fault(4, "hall ^1 4;");
        fault(4, "hall ^9 9;");
        fault(4, "hall 8 ^0;");
        fault(4, "hall 8 ^9;");
        fault(4, "hall 8 ^9999");
        fault(1, "hall 8 ^;");
        fault(1, "hall 8 8^");
        fault(1, "hall 8 8 ^8;");
        fault(1, "hall 4 4;^hall 4 4;");
        fault(1, "hall 4 4;^;");
        fault(1, "hall 4 4;^name");
        fault(1, "hall 4 4;^4");
        fault(1, "hall 4 4;^ahead");
        fault(1, "hall 4 4;^glasses");

        fault(1, "hall 4 3;pillar^");
        fault(4, "hall 4 3;pillar ^4 1;");
        fault(4, "hall 4 3;pillar 3 ^3;");
        fault(1, "hall 4 3;pillar 3 ^;");
        fault(1, "hall 4 3;pillar 3 2^");
        fault(3, "hall 4 3;pillar 3 2;pillar 3 ^2;");
        fine("hall 4 3;pillar 3 2;pillar 2 2;pillar 3 1;");
        fine("hall 4 3;pillar 0 0;");
        fault(3, "hall 4 3;carriage 0 0;pillar 0 ^0;");
        fault(3, "hall 4 3;pillar 0 0;carriage 0 ^0;");
        fine("hall 4 3;pillar 0 0;carriage 1 0;");
        fine("hall 4 3;guest g plain at 1 0 way 0 age 0;carriage 1 0;");
        fault(3, "hall 4 3;guest g plain at 1 0 way 0 age 0;pillar 1 ^0;");
        fault(4, "hall 4 3;carriage ^4 3");
        fault(3, "hall 4 3;carriage 1 1;^carriage 1 1;");
        fault(3, "hall 4 3;carriage 1 1;^carriage");

        fault(1, "hall 4 4;dance ^;");
        fault(1, "hall 4 4;dance ^3");
        fault(1, "hall 4 4;dance ^age rest;");
        fault(1, "hall 4 4;dance ^or rest;");
        fault(1, "hall 4 4;dance ^uncle rest;");
        fault(1, "hall 4 4;dance ^hop rest;");
        fault(1, "hall 4 4;dance d^;");
        fault(1, "hall 4 4;dance d rest ^d;");
        fault(1, "hall 4 4;dance d rest ^3;");
        fault(1, "hall 4 4;dance d rest^");
        fine("hall 4 4;dance d rest rest rest rest rest rest rest rest;");
        fault(5, "hall 4 4;dance d rest rest rest rest rest rest rest rest ^hop;");
        fault(1, "hall 4 4;dance d rest rest rest rest rest rest rest rest ^old;");
        fault(3, "hall 4 4;dance d rest;dance ^d rest;");
        fine(SIX_DANCES);
        fault(5, SIX_DANCES + "^dance g rest;");
        fault(5, SIX_DANCES + "^dance");
    }

    private static void wines() {
        String d = "hall 4 4;dance a rest;dance b rest;dance c rest;dance d rest;";
        fine(d + "wine w glasses 0 of a 1;");
        fine(d + "wine w glasses 99 of a 4 b 1 c 4;");
        fault(3, d + "wine ^a glasses 1 of a 1;");
        fault(1, d + "wine ^wine glasses 1 of a 1;");
        fault(1, d + "wine w ^of a 1;");
        fault(1, d + "wine w glasses ^of a 1;");
        fault(4, d + "wine w glasses ^100 of a 1;");
        fault(1, d + "wine w glasses 1 ^a 1;");
        fault(1, d + "wine w glasses 1 of ^;");
        fault(1, d + "wine w glasses 1 of ^3;");
        fault(1, d + "wine w glasses 1 of ^at 3;");
        fault(2, d + "wine w glasses 1 of ^w 3;");
        fault(2, d + "wine w glasses 1 of ^e 3;dance e rest;");
        fault(2, d + "guest g plain at 0 0 way 0 age 0;wine w glasses 1 of ^g 1;");
        fault(1, d + "wine w glasses 1 of a ^;");
        fault(1, d + "wine w glasses 1 of a ^b 1;");
        fault(4, d + "wine w glasses 1 of a ^0;");
        fault(4, d + "wine w glasses 1 of a ^5;");
        fault(3, d + "wine w glasses 1 of a 1 ^a 1;");
        fault(3, d + "wine w glasses 1 of a 1 b 1 ^a 1;");
        fault(1, d + "wine w glasses 1 of a 1 ^4;");
        fault(1, d + "wine w glasses 1 of a 1^");
        fault(5, d + "wine w glasses 1 of a 1 b 1 c 1 ^d 1;");
        fault(3, d + "wine w glasses 1 of a 1 b 1 c 1 ^c 1;");
        fault(2, d + "wine w glasses 1 of a 1 b 1 c 1 ^w 1;");
        fault(1, d + "wine w glasses 1 of a 1 b 1 c 1 ^way 1;");
        StringBuilder six = new StringBuilder(d);
        for (char c = 'p'; c < 'v'; c++) {
            six.append("wine ").append(c).append(" glasses 1 of a 1;");
        }
        fine(six.toString());
        fault(5, six + "^wine");
        fine(six + "dance e rest;");
    }

    private static void guests() {
        String h = "hall 4 3;pillar 1 1;";
        fine(h + "guest g plain at 0 0 way 0 age 0;guest h old at 0 0 way 3 age 99;");
        fault(1, h + "guest ^old old at 0 0 way 0 age 0;");
        fault(3, h + "dance g rest;guest ^g old at 0 0 way 0 age 0;");
        fault(3, h + "guest g old at 0 0 way 0 age 0;guest ^g old at 0 0 way 0 age 0;");
        fault(3, h + "dance d rest;wine g glasses 0 of d 1;guest ^g old at 0 0 way 0 age 0;");
        fault(1, h + "guest g ^at 0 0 way 0 age 0;");
        fault(1, h + "guest g ^young at 0 0 way 0 age 0;");
        fault(1, h + "guest g lame ^0 0 way 0 age 0;");
        fault(4, h + "guest g lame at ^4 0 way 0 age 0;");
        fault(4, h + "guest g lame at 3 ^3 way 0 age 0;");
        fault(3, h + "guest g lame at 1 ^1 way 0 age 0;");
        fault(1, h + "guest g lame at 1 2 ^age 0;");
        fault(4, h + "guest g lame at 1 2 way ^4 age 0;");
        fault(1, h + "guest g lame at 1 2 way 3 ^0;");
        fault(4, h + "guest g lame at 1 2 way 3 age ^100;");
        fault(1, h + "guest g lame at 1 2 way 3 age 99^");
        fault(1, h + "guest g lame at 1 2 way 3 age 99 ^guest");
        StringBuilder six = new StringBuilder(h);
        for (char c = 'p'; c < 'v'; c++) {
            six.append("guest ").append(c).append(" waiter at 0 0 way 1 age 1;");
        }
        fine(six.toString());
        fault(5, six + "^guest");
        fine(six + "carriage 0 0;");
    }

    private static void laws() {
        String h = "hall 4 4;stagger ";
        fine(h + "0;");
        fine(h + "9999+glass*step-age*drunk<not 3 and(4)or not(1=2)=not not 0;");
        fine(h + "1<2 and 3=4 or 5<6;");
        fine(h + "(1<2)<(3=4);");
        fault(1, h + "^;");
        fault(1, h + "^x;");
        fault(1, h + "^glasses;");
        fault(1, h + "^way;");
        fault(1, h + "^-1;");
        fault(1, h + "1 ^1;");
        fault(1, h + "1 ^age;");
        fault(1, h + "1 ^not 1;");
        fault(1, h + "1 ^(1);");
        fault(1, h + "1+^;");
        fault(1, h + "1*^*1;");
        fault(1, h + "1 and ^or 1;");
        fault(1, h + "1<2^<3;");
        fault(1, h + "1=2+3*4^=3;");
        fault(1, h + "(1<2^=3);");
        fault(1, h + "1<(2=3)^<4;");
        fault(1, h + "1^);");
        fault(1, h + "(1)^);");
        fault(1, h + "(1^;");
        fault(1, h + "(^);");
        fault(1, h + "not ^;");
        fault(1, h + "1^");
        fault(1, h + "not^");
        fault(1, h + "^10000;");
        fine(h + "not not not not 1;");
        fine(h + "((((1))))+not(not(1));");
        fault(5, h + "not not not not not ^age;");
        fault(5, h + "not not not not not ^not 1;");
        fault(5, h + "not not not not not ^(1);");
        fault(1, h + "not not not not not ^);");
        fault(1, h + "not not not not not ^and;");
        fault(1, h + "(((((^");
        fault(5, h + "(((((^1)))));");
        fault(5, h + "(((((^(1))))));");
        fault(5, h + "(not(not(^1)))+2;");
        fine(h + "(not(not 1))+(not(not 1))*not(1+(1+(1)));");
        fault(3, h + "1;^stagger 1;");
    }

    private static void tokens() {
        fine("hall 4 4;dance abcdefgh rest;");
        fine("hall 4 4;dance aza rest;dance zzzzzzzz rest;wine z glasses 1 of zzzzzzzz 1 aza 1;");
        fault(1, "hall 4 4;dance ^abcdefghi rest;");
        fault(1, "hall 4 4;^pillars 1 1;");
        fault(1, "hall ^00004 4;");
        fault(1, "hall 4^.4;");
        fault(1, "hall 4 4;dance d rest;^Dance");
        fault(1, "hall 4 4;dance d^_rest;");
        fault(1, "^Hall 4 4;");
        fine("hall\n4\n4\n;");
        fine("hall 4 4;guest g plain at 0 0way 0age 0;");
        fine("hall4 4;pillar1 1;");
        fault(1, "hall 4^,4;");
        fault(1, "hall 4 4;stagger 1^/2;");
        fault(1, "hall 4 4;stagger 1^>2;");
        fault(1, "hall 4 4^:");
    }
}
