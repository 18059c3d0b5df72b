/** Boundary cases of promise 3 (cellar): the lines and their numbers, what a fault leaves, what a cellar begins with. */
final class CellarCases extends Cases {
    private static final String D = "hall 4 4;dance a rest;dance b rest;dance c rest;dance d rest;";

    /** Six dances, six wines of 99 glasses, six guests in a hall of 8 by 8. */
    static String full() {
        StringBuilder t = new StringBuilder("hall 8 8;");
        for (char c = 'a'; c < 'g'; c++) {
            t.append("dance d").append(c).append(" ahead;");
        }
        for (char c = 'a'; c < 'g'; c++) {
            t.append("wine w").append(c).append(" glasses 99 of d").append(c).append(" 1;");
        }
        for (char c = 'a'; c < 'g'; c++) {
            t.append("guest g").append(c).append(" plain at ").append(c - 'a').append(" 0 way 0 age 9;");
        }
        return t.toString();
    }

    // ---- the hall

    @Case(promise = 3, says = "hall first: another line, no line, a sign, the end")
    static void hallFirst() {
        fault(1, "^");
        fault(1, "   \n^");
        fault(1, "^;");
        fault(1, "^4 4;");
        fault(1, "^x");
        for (String word : "pillar carriage dance wine guest stagger of ahead".split(" ")) {
            fault(1, "^" + word + " 1 1;");
        }
    }

    @Case(promise = 3, says = "how wide, 2 to 8")
    static void hallWide() {
        fault(4, "hall ^0 4;");
        fault(4, "hall ^1 4;");
        fine("hall 2 4;");
        fine("hall 8 4;");
        fault(4, "hall ^9 4;");
        fault(4, "hall ^9999 4;");
    }

    @Case(promise = 3, says = "how deep, 2 to 8")
    static void hallDeep() {
        fault(4, "hall 4 ^0;");
        fault(4, "hall 4 ^1;");
        fine("hall 4 2;");
        fine("hall 4 8;");
        fault(4, "hall 4 ^9;");
        fault(4, "hall 4 ^9999;");
    }

    @Case(promise = 3, says = "hall again: 1")
    static void hallAgain() {
        fault(1, "hall 4 4;^hall 4 4;");
        fault(1, "hall 4 4;dance d rest;^hall");
    }

    @Case(promise = 3, says = "then any number of lines: none; a pillar in every CELL")
    static void anyNumberOfLines() {
        fine("hall 2 2;");
        StringBuilder t = new StringBuilder("hall 8 8;");
        for (int cell = 0; cell < 64; cell++) {
            t.append("pillar ").append(cell % 8).append(' ').append(cell / 8).append(';');
        }
        fine(t.toString());
        fine(t + " ".repeat(1000 - t.length()));
        fault(3, t + "carriage 7 ^7;");
    }

    @Case(promise = 3, says = "another token where a line begins can't stand there")
    static void lineBegins() {
        for (String word : "; 4 name glasses of at way age ahead hop left right rest plain old not and or ( glass".split(" ")) {
            fault(1, "hall 4 4;^" + word);
        }
    }

    @Case(promise = 3, says = "the end being a token: each line broken off behind each of its tokens")
    static void brokenOff() {
        String[] lines = {"hall 4 4 ;", "pillar 1 1 ;", "carriage 2 1 ;", "dance d rest hop ;",
            "wine w glasses 3 of d 2 ;", "guest g plain at 2 2 way 0 age 0 ;", "stagger not ( 1 + 2 ) < 3 ;"};
        String ahead = "";
        for (String line : lines) {
            String[] tokens = line.split(" ");
            String broken = ahead;
            for (int n = 0; n < tokens.length - 1; n++) {
                broken = broken + tokens[n] + " ";
                fault(1, broken + "^");
            }
            ahead = ahead + line;
        }
        fine(ahead);
    }

    @Case(promise = 3, says = "the place of the end is the text's length, blanks behind the last token, too")
    static void placeOfTheEnd() {
        fault(1, "hall 4 4^");
        fault(1, "hall 4 4  \n^");
        fault(1, "hall 4 4" + " ".repeat(992) + "^");
    }

    @Case(promise = 3, says = "kind + 16 * the place: the last place on a full TAPE")
    static void lastPlace() {
        fault(1, "hall 4 4;" + " ".repeat(990) + "^;");
        fault(4, "hall 4 4;" + " ".repeat(981) + "pillar 0 ^7");
    }

    // ---- cells

    @Case(promise = 3, says = "pillar: a CELL in the hall, 0 to how wide less 1, 0 to how deep less 1")
    static void pillarInHall() {
        fine("hall 5 3;pillar 0 0;pillar 4 2;pillar 4 0;pillar 0 2;");
        fault(4, "hall 5 3;pillar ^5 0;");
        fault(4, "hall 5 3;pillar 0 ^3;");
        fault(4, "hall 5 3;pillar ^5 3;");
        fault(4, "hall 3 5;pillar ^3 4;");
        fine("hall 8 8;pillar 7 7;");
        fault(4, "hall 8 8;pillar ^8 7;");
        fault(4, "hall 8 8;pillar 7 ^8;");
    }

    @Case(promise = 3, says = "carriage: a CELL in the hall")
    static void carriageInHall() {
        fine("hall 5 3;carriage 4 2;");
        fault(4, "hall 5 3;carriage ^5 2;");
        fault(4, "hall 5 3;carriage 4 ^3;");
    }

    @Case(promise = 3, says = "guest: at a CELL in the hall")
    static void guestInHall() {
        fine("hall 5 3;guest g plain at 4 2 way 0 age 0;");
        fault(4, "hall 5 3;guest g plain at ^5 2 way 0 age 0;");
        fault(4, "hall 5 3;guest g plain at 4 ^3 way 0 age 0;");
    }

    @Case(promise = 3, says = "pillar: a CELL without pillar; at y")
    static void pillarOnPillar() {
        fault(3, "hall 4 4;pillar 1 2;pillar 1 ^2;");
        fine("hall 4 4;pillar 1 2;pillar 2 1;pillar 1 1;pillar 2 2;");
    }

    @Case(promise = 3, says = "pillar: a CELL without carriage; at y")
    static void pillarOnCarriage() {
        fault(3, "hall 4 4;carriage 1 2;pillar 1 ^2;");
        fault(3, "hall 4 4;carriage 0 0;pillar 0 ^0;");
        fine("hall 4 4;carriage 1 2;pillar 2 1;");
    }

    @Case(promise = 3, says = "pillar: a CELL without guest; at y")
    static void pillarOnGuest() {
        fault(3, "hall 4 4;guest g plain at 1 2 way 0 age 0;pillar 1 ^2;");
        fault(3, "hall 4 4;guest g plain at 1 2 way 0 age 0;guest h plain at 3 3 way 0 age 0;pillar 1 ^2;");
        fault(3, "hall 4 4;guest g plain at 1 2 way 0 age 0;guest h plain at 3 3 way 0 age 0;pillar 3 ^3;");
        fine("hall 4 4;guest g plain at 1 2 way 0 age 0;pillar 2 1;");
    }

    @Case(promise = 3, says = "carriage: a CELL without pillar; at y")
    static void carriageOnPillar() {
        fault(3, "hall 4 4;pillar 1 2;carriage 1 ^2;");
        fault(3, "hall 4 4;pillar 0 0;carriage 0 ^0;");
        fine("hall 4 4;pillar 1 2;carriage 2 1;");
    }

    @Case(promise = 3, says = "carriage: a guest may be in its CELL, told ahead or behind")
    static void carriageOnGuest() {
        fine("hall 4 4;guest g plain at 1 2 way 0 age 0;carriage 1 2;");
        fine("hall 4 4;carriage 1 2;guest g plain at 1 2 way 0 age 0;");
    }

    @Case(promise = 3, says = "carriage: once; a second time: 3 at the word")
    static void carriageTwice() {
        fault(3, "hall 4 4;carriage 1 2;^carriage 2 2;");
        fault(3, "hall 4 4;carriage 0 0;^carriage");
        fault(3, "hall 4 4;carriage 3 3;^carriage 9 9;");
    }

    @Case(promise = 3, says = "the CELL 0, 0 without a line, a pillar there or not")
    static void carriageWithoutLine() {
        DanceWine x = cellar("hall 4 4;pillar 0 0;");
        due("carriage", x.count(8), 0);
        x = cellar("hall 4 4;pillar 0 0;carriage 1 0;");
        due("carriage told behind it", x.count(8), 1);
        x = cellar("hall 4 4;carriage 1 0;pillar 0 0;");
        due("carriage told ahead of it", x.count(8), 1);
    }

    @Case(promise = 3, says = "guest: at a CELL without pillar; at y")
    static void guestOnPillar() {
        fault(3, "hall 4 4;pillar 1 2;guest g plain at 1 ^2 way 0 age 0;");
        fine("hall 4 4;pillar 1 2;guest g plain at 2 1 way 0 age 0;");
    }

    @Case(promise = 3, says = "guest: others may be there")
    static void guestOnGuest() {
        DanceWine x = cellar("hall 4 4;guest g plain at 1 2 way 0 age 0;guest h plain at 1 2 way 0 age 0;");
        due("one", x.guest(0, 1), 17);
        due("other", x.guest(1, 1), 17);
    }

    // ---- dances

    @Case(promise = 3, says = "dance: 6 at most; the word dance of a seventh: 5")
    static void sevenDances() {
        StringBuilder t = new StringBuilder("hall 4 4;");
        for (char c = 'a'; c < 'g'; c++) {
            t.append("dance ").append(c).append(" hop;");
        }
        fine(t.toString());
        fault(5, t + "^dance g hop;");
        fault(5, t + "^dance a");
        fault(5, t + "^dance");
        fine(t + "wine w glasses 1 of f 1;");
    }

    @Case(promise = 3, says = "dance: 1 to 8 STEPs; the ninth: 5")
    static void danceSteps() {
        fault(1, "hall 4 4;dance d ^;");
        fine("hall 4 4;dance d hop;");
        fine("hall 4 4;dance d hop hop hop hop hop hop hop hop;");
        fault(5, "hall 4 4;dance d hop hop hop hop hop hop hop hop ^hop;");
        fault(5, "hall 4 4;dance d ahead hop left right rest ahead hop left ^rest rest rest;");
    }

    @Case(promise = 3, says = "of the first wrong token the least: what is no STEP behind the eighth is 1")
    static void noNinthStep() {
        fault(1, "hall 4 4;dance d hop hop hop hop hop hop hop hop ^jump;");
        fault(1, "hall 4 4;dance d hop hop hop hop hop hop hop hop ^4;");
        fault(1, "hall 4 4;dance d hop hop hop hop hop hop hop hop^");
    }

    @Case(promise = 3, says = "STEPs: ahead, hop, left, right, rest, and no other")
    static void stepWords() {
        fine("hall 4 4;dance d ahead hop left right rest;");
        for (String word : "d jump plain waiter old not at stagger 1 ( <".split(" ")) {
            fault(1, "hall 4 4;dance d hop ^" + word + ";");
            fault(1, "hall 4 4;dance d ^" + word + ";");
        }
    }

    // ---- wines

    @Case(promise = 3, says = "wine: 6 at most; the word wine of a seventh: 5")
    static void sevenWines() {
        StringBuilder t = new StringBuilder(D);
        for (char c = 'p'; c < 'v'; c++) {
            t.append("wine ").append(c).append(" glasses 1 of a 1;");
        }
        fine(t.toString());
        fault(5, t + "^wine x glasses 1 of a 1;");
        fault(5, t + "^wine p");
        fault(5, t + "^wine");
        fine(t + "dance e rest;");
    }

    @Case(promise = 3, says = "wine: 0 to 99 glasses")
    static void wineGlasses() {
        due("0", cellar(D + "wine w glasses 0 of a 1;").wine(0, 0), 0);
        due("99", cellar(D + "wine w glasses 99 of a 1;").wine(0, 0), 99);
        fault(4, D + "wine w glasses ^100 of a 1;");
        fault(4, D + "wine w glasses ^9999 of a 1;");
    }

    @Case(promise = 3, says = "wine: 1 to 3 parts")
    static void wineParts() {
        fault(1, D + "wine w glasses 1 of ^;");
        fine(D + "wine w glasses 1 of a 1;");
        fine(D + "wine w glasses 1 of a 1 b 1 c 1;");
        fault(5, D + "wine w glasses 1 of a 1 b 1 c 1 ^d 1;");
        fault(5, D + "wine w glasses 1 of a 1 b 1 c 1 ^d");
    }

    @Case(promise = 3, says = "of the first wrong token the least: the NAME of a fourth part that is wrong in another way, too")
    static void fourthPartLeast() {
        fault(3, D + "wine w glasses 1 of a 1 b 1 c 1 ^a 1;");
        fault(2, D + "wine w glasses 1 of a 1 b 1 c 1 ^x 1;");
        fault(1, D + "wine w glasses 1 of a 1 b 1 c 1 ^rest 1;");
        fault(1, D + "wine w glasses 1 of a 1 b 1 c 1 ^4;");
    }

    @Case(promise = 3, says = "a part: 1 to 4 times")
    static void partTimes() {
        fault(4, D + "wine w glasses 1 of a ^0;");
        due("1", cellar(D + "wine w glasses 1 of a 1;").wine(0, 1), 1);
        due("4", cellar(D + "wine w glasses 1 of a 4;").wine(0, 1), 4);
        fault(4, D + "wine w glasses 1 of a ^5;");
        fault(4, D + "wine w glasses 1 of a 1 b 4 c ^5;");
    }

    @Case(promise = 3, says = "a DANCE told: a NAME of no DANCE, or of one told later: 2")
    static void partNoDance() {
        fault(2, D + "wine w glasses 1 of ^x 1;");
        fault(2, D + "wine w glasses 1 of a 1 ^x 1;");
        fault(2, D + "wine w glasses 1 of ^x 1;dance x rest;");
        fault(2, "hall 4 4;wine w glasses 1 of ^a 1;");
    }

    @Case(promise = 3, says = "a NAME of no DANCE: of a wine, of a guest, of the wine itself: 2")
    static void partOtherName() {
        fault(2, D + "wine v glasses 1 of a 1;wine w glasses 1 of ^v 1;");
        fault(2, D + "guest g plain at 0 0 way 0 age 0;wine w glasses 1 of ^g 1;");
        fault(2, D + "wine w glasses 1 of ^w 1;");
    }

    @Case(promise = 3, says = "each DANCE once in a wine; a second time: 3")
    static void partTwice() {
        fault(3, D + "wine w glasses 1 of a 1 ^a 1;");
        fault(3, D + "wine w glasses 1 of a 1 b 1 ^a 1;");
        fault(3, D + "wine w glasses 1 of a 1 b 1 ^b 1;");
        fine(D + "wine w glasses 1 of a 1 b 1;wine v glasses 1 of b 1 a 1;");
    }

    // ---- guests

    @Case(promise = 3, says = "guest: 6 at most; the word guest of a seventh: 5")
    static void sevenGuests() {
        StringBuilder t = new StringBuilder("hall 4 4;");
        for (char c = 'a'; c < 'g'; c++) {
            t.append("guest ").append(c).append(" old at 0 0 way 0 age 0;");
        }
        fine(t.toString());
        fault(5, t + "^guest g old at 0 0 way 0 age 0;");
        fault(5, t + "^guest a");
        fault(5, t + "^guest");
        fine(t + "dance x rest;wine w glasses 1 of x 1;");
    }

    @Case(promise = 3, says = "6 dances, 6 wines, 6 guests at once; a seventh of each")
    static void sixOfEach() {
        fine(full());
        fault(5, full() + "^dance");
        fault(5, full() + "^wine");
        fault(5, full() + "^guest");
        fine(full() + "stagger 0;carriage 7 7;pillar 7 6;");
    }

    @Case(promise = 3, says = "way 0 to 3")
    static void guestWay() {
        due("0", cellar("hall 4 4;guest g old at 0 0 way 0 age 0;").guest(0, 2), 0);
        due("3", cellar("hall 4 4;guest g old at 0 0 way 3 age 0;").guest(0, 2), 3);
        fault(4, "hall 4 4;guest g old at 0 0 way ^4 age 0;");
        fault(4, "hall 4 4;guest g old at 0 0 way ^9999 age 0;");
    }

    @Case(promise = 3, says = "age 0 to 99")
    static void guestAge() {
        due("0", cellar("hall 4 4;guest g old at 0 0 way 0 age 0;").guest(0, 3), 0);
        due("99", cellar("hall 4 4;guest g old at 0 0 way 0 age 99;").guest(0, 3), 99);
        fault(4, "hall 4 4;guest g old at 0 0 way 0 age ^100;");
    }

    @Case(promise = 3, says = "KIND: plain, waiter, lame, uncle, old, and no other")
    static void guestKind() {
        String[] kinds = {"plain", "waiter", "lame", "uncle", "old"};
        for (int k = 0; k < kinds.length; k++) {
            DanceWine x = cellar("hall 4 4;guest g " + kinds[k] + " at 0 0 way 0 age 0;");
            due(kinds[k], x.guest(0, 0), k);
        }
        for (String word : "rest not young g at 1 ; at".split(" ")) {
            fault(1, "hall 4 4;guest g ^" + word);
        }
    }

    @Case(promise = 3, says = "1: a WORD where a NUMBER is due, a NUMBER where a WORD is due")
    static void wordForNumber() {
        fault(1, "hall ^x 4;");
        fault(1, "hall 4 ^;");
        fault(1, "hall 4 4 ^4;");
        fault(1, "hall 4 4;pillar ^x 1;");
        fault(1, "hall 4 4;carriage 1 ^;");
        fault(1, "hall 4 4;dance ^4 rest;");
        fault(1, D + "wine ^4 glasses 1 of a 1;");
        fault(1, D + "wine w ^1 of a 1;");
        fault(1, D + "wine w glasses ^of a 1;");
        fault(1, D + "wine w glasses 1 ^a 1;");
        fault(1, D + "wine w glasses 1 of ^1 a;");
        fault(1, D + "wine w glasses 1 of a ^b 1;");
        fault(1, D + "wine w glasses 1 of a 1 ^1;");
        fault(1, "hall 4 4;guest ^4 old at 0 0 way 0 age 0;");
        fault(1, "hall 4 4;guest g old ^0 0 way 0 age 0;");
        fault(1, "hall 4 4;guest g old at ^way 0 age 0;");
        fault(1, "hall 4 4;guest g old at 0 ^way 0 age 0;");
        fault(1, "hall 4 4;guest g old at 0 0 ^0 age 0;");
        fault(1, "hall 4 4;guest g old at 0 0 way ^age 0;");
        fault(1, "hall 4 4;guest g old at 0 0 way 0 ^0;");
        fault(1, "hall 4 4;guest g old at 0 0 way 0 age ^;");
        fault(1, "hall 4 4;guest g old at 0 0 way 0 age 0 ^0;");
    }

    @Case(promise = 3, says = "the first token from the left that is wrong, though a later one is wrong, too")
    static void firstFromTheLeft() {
        fault(4, "hall ^9 1 &");
        fault(1, "hall ^& 9 9");
        fault(4, "hall 4 4;pillar ^4 4;hall");
        fault(4, D + "wine w glasses ^100 of x 9;");
        fault(2, D + "wine w glasses 1 of ^x 9;");
        fault(3, "hall 4 4;pillar 1 1;guest g old at 1 ^1 way 9 age 100;");
    }

    // ---- what a fault leaves, what a cellar begins with

    private static final String EVENING = "hall 5 4;pillar 4 3;carriage 3 1;dance d ahead;wine w glasses 3 of d 2;"
            + "guest g plain at 1 1 way 0 age 7;stagger step=1;";

    private static DanceWine evening() {
        DanceWine x = cellar(EVENING);
        pour(x, 0, 0);
        x.mark(2, false);
        pour(x, 0, 0);
        x.see(0, 1, 2);
        return x;
    }

    @Case(promise = 3, says = "its FAULT (all stays then): whatever had been read ahead of the fault")
    static void faultLeavesAll() {
        String spoilt = "hall 8 8;pillar 1 1;carriage 7 7;dance e hop;dance f left;wine v glasses 9 of f 1;"
                + "guest h old at 5 5 way 1 age 8;guest i lame at 0 0 way 1 age 8;stagger 1;&";
        for (int cut = 0; cut <= spoilt.length(); cut += 7) {
            DanceWine x = evening();
            String before = state(x);
            Check.feed(x, spoilt.substring(0, cut) + "&");
            due("a fault", x.cellar() % 16, 1);
            due("state", state(x), before);
        }
    }

    @Case(promise = 3, says = "all stays then: what can be undone, marks, the law, the carriage's cell")
    static void faultLeavesMarks() {
        DanceWine x = evening();
        due("fault", Check.told(x, "hall 8 8;stagger 0;dance d d"), 1 + 16 * 27);
        due("undo", x.undo(), true);
        due("the law", x.walk(0, 2), 1);
        due("mark", x.mark(2, true), true);
        due("glasses", x.guest(0, 4), 1);
        due("carriage", x.count(8), 11);
        due("a pillar", x.read(1), -1);
    }

    @Case(promise = 3, says = "an empty TAPE is a fault at the end, and all stays")
    static void emptyTape() {
        DanceWine x = evening();
        String before = state(x);
        due("cellar", x.cellar(), 1);
        due("state", state(x), before);
    }

    @Case(promise = 3, says = "Without a FAULT it is the CELLAR from then on: nobody has drunk")
    static void anewNobodyDrunk() {
        DanceWine x = evening();
        due("cellar", Check.told(x, EVENING), 0);
        due("glasses it has", x.guest(0, 4), 0);
        due("its steps", x.guest(0, 5), 0);
        due("walk", x.walk(0, 0), 9);
        due("glass", x.glass(0, 0), -1);
        due("all glasses", x.wine(0, 0), 3);
    }

    @Case(promise = 3, says = "it is the CELLAR from then on: nothing is SEEN")
    static void anewNothingSeen() {
        DanceWine x = evening();
        Check.told(x, EVENING);
        due("seen", x.count(6), 0);
        due("read", x.read(1), -1);
    }

    @Case(promise = 3, says = "it is the CELLAR from then on: nothing can be undone")
    static void anewNothingUndone() {
        DanceWine x = evening();
        Check.told(x, EVENING);
        due("count", x.count(7), 0);
        due("undo", x.undo(), false);
    }

    @Case(promise = 3, says = "it is the CELLAR from then on: no MARK is there")
    static void anewNoMark() {
        DanceWine x = evening();
        for (int m = 0; m < 4; m++) {
            x.mark(m, false);
        }
        Check.told(x, EVENING);
        for (int m = 0; m < 4; m++) {
            due("mark(" + m + ")", x.mark(m, true), false);
        }
    }

    @Case(promise = 3, says = "it is the CELLAR from then on: nothing of the former one is left")
    static void anewNothingLeft() {
        DanceWine x = evening();
        due("cellar", Check.told(x, "hall 6 6;"), 0);
        due("state", state(x), "6 6 0 0 0 0 0 0 0 0 | -1 -1");
        due("names can be told again", Check.told(x, EVENING.replace("stagger step=1;", "").replace("pillar 4 3;", "")
                .replace("carriage 3 1;", "")), 0);
        due("no law", x.walk(0, 2), 0);
        due("no carriage", x.count(8), 0);
        pour(x, 0, 0);
        due("without a line the law is 0", x.walk(0, 2), 0);
        due("walk", x.walk(0, 0), 25);
        x.see(0, 4, 3);
        due("no pillar", Check.told(x, "hall 5 4;guest g plain at 4 3 way 0 age 0;"), 0);
        due("nobody is seen there", x.read(1), -1);
    }

    @Case(promise = 3, says = "of the text of a FAULT nothing is left: not in the CELLAR that is told next")
    static void behindAFault() {
        DanceWine x = new DanceWine();
        due("fault", Check.told(x, "hall 6 6;pillar 2 2;carriage 3 3;dance d hop;dance e hop;wine w glasses 9 of d 4;"
                + "guest g plain at 1 1 way 0 age 0;guest h old at 4 4 way 0 age 0;stagger 1;&") % 16, 1);
        due("told", Check.told(x, "hall 6 6;dance d ahead;wine w glasses 2 of d 1;guest g plain at 2 1 way 0 age 5;"), 0);
        due("counts", state(x), "6 6 1 1 1 2 0 0 0 0 | wine 2 1 0 | guest 0 10 0 5 0 0 10 0 | -1 -1");
        pour(x, 0, 0);
        due("no pillar, no law", x.walk(0, 0), 18);
        due("guest cells are free", Check.told(x, "hall 6 6;pillar 1 1;pillar 4 4;pillar 2 2;pillar 3 3;"), 0);
    }

    @Case(promise = 3, says = "it is the CELLAR from then on: told again and again, each anew")
    static void toldAgainAndAgain() {
        DanceWine x = new DanceWine();
        for (int n = 0; n < 3; n++) {
            due("a full one", Check.told(x, "hall 6 6;pillar 2 2;carriage 3 3;dance d left;dance e hop;"
                    + "wine w glasses 9 of d 4 e 4;guest g plain at 1 1 way 0 age 0;guest h old at 4 4 way 0 age 0;"
                    + "stagger age=5;"), 0);
            for (int k = 0; k < 2; k++) {
                due("a small one", Check.told(x, "hall 6 6;dance d ahead;wine w glasses 2 of d 1;"
                        + "guest g plain at 2 1 way 0 age 5;"), 0);
                due("counts", state(x), "6 6 1 1 1 2 0 0 0 0 | wine 2 1 0 | guest 0 10 0 5 0 0 10 0 | -1 -1");
                due("beyond its steps", x.step(0, 1), -1);
                pour(x, 0, 0);
                due("no pillar, no law", x.walk(0, 0), 18);
            }
        }
    }

    @Case(promise = 3, says = "the first wrong token: where ; or a WORD is missing, though a whole line follows")
    static void lineWithinLine() {
        fault(1, "hall 4 4 ^pillar 1 1;");
        fault(1, "hall ^pillar 1 1;");
        fault(1, "hall 4 ^dance d rest;");
        fault(1, "hall 4 4;pillar ^pillar 1 1;");
        fault(1, "hall 4 4;pillar 1 ^pillar 1 1;");
        fault(1, "hall 4 4;pillar 1 1 ^pillar 2 2;");
        fault(1, "hall 4 4;carriage 1 1 ^pillar 2 2;");
        fault(1, "hall 4 4;carriage ^dance d rest;");
        fault(1, "hall 4 4;dance ^dance d rest;");
        fault(1, "hall 4 4;dance d ^dance e rest;");
        fault(1, "hall 4 4;dance d rest ^dance e rest;");
        String[] cut = {"wine", "wine w", "wine w glasses", "wine w glasses 1", "wine w glasses 1 of",
            "wine w glasses 1 of a", "wine w glasses 1 of a 1", "guest", "guest g", "guest g old", "guest g old at",
            "guest g old at 0", "guest g old at 0 0", "guest g old at 0 0 way", "guest g old at 0 0 way 0",
            "guest g old at 0 0 way 0 age", "guest g old at 0 0 way 0 age 0", "stagger", "stagger 1", "stagger(1"};
        for (String line : cut) {
            fault(1, D + line + " ^dance e rest;");
            fault(1, D + line + " ^pillar 9 9;");
        }
    }

    @Case(promise = 3, says = "a NAME of no DANCE told: with six told; of one that the former CELLAR had")
    static void partOfFormerDance() {
        fault(2, full().replaceAll("wine wf .*?;", "") + "wine w glasses 1 of ^x 1;");
        fault(2, full().replaceAll("wine wf .*?;", "") + "wine w glasses 1 of da 1 ^x 1;");
        DanceWine x = cellar("hall 4 4;dance a rest;dance b rest;");
        due("fault", Check.told(x, "hall 4 4;dance a rest;wine w glasses 1 of b 1;"), 2 + 16 * 42);
    }
}
