/** Boundary cases of promises 1 (a new object), 2 (feed) and 25 (count). */
final class TapeCases extends Cases {
    private static final int[] SHIFTS = {56, 48, 40, 32, 24, 16, 8, 0};

    private static int fed(DanceWine x, String text) {
        long[] p = Check.signs(text, 0);
        return x.feed(p[0], p[1], p[2]);
    }

    // ---- promise 1

    @Case(promise = 1, says = "A hall of 2 by 2")
    static void newHall() {
        DanceWine x = new DanceWine();
        due("count(0)", x.count(0), 2);
        due("count(1)", x.count(1), 2);
    }

    @Case(promise = 1, says = "At first: hall 2 2, nothing else")
    static void newNothingElse() {
        DanceWine x = new DanceWine();
        for (int what = 2; what <= 9; what++) {
            due("count(" + what + ")", x.count(what), 0);
        }
    }

    @Case(promise = 1, says = "At first nothing else: each call about a guest, a wine, a dance answers that there is none")
    static void newCalls() {
        DanceWine x = new DanceWine();
        due("step", x.step(0, 0), -1);
        due("wine", x.wine(0, 0), -1);
        due("guest", x.guest(0, 0), -1);
        due("glass", x.glass(0, 0), -1);
        due("pour", x.pour(0, 0), false);
        due("water", x.water(0), false);
        due("undo", x.undo(), false);
        due("walk", x.walk(0, 0), -1);
        due("ball", x.ball(0, 0, 0), -2);
        due("fewest", x.fewest(0, 0, 0, -1), -1);
        due("served", x.served(0, 0, 0, 0), -1);
        due("row", x.row(0, 0, 0, 0, 0, -1), -1);
        due("couples", x.couples(0), -1);
        due("quarrel", x.quarrel(0, 0), false);
        due("found", x.found(0), -1);
        due("see", x.see(0, 0, 0), false);
        due("read", x.read(1), -1);
        due("dance", x.dance(1, 0), -1);
        due("mark back", x.mark(0, true), false);
    }

    @Case(promise = 1, says = "At first nothing else: a ball and an order of nobody")
    static void newNobody() {
        DanceWine x = new DanceWine();
        due("ball", x.ball(8, 9999, -1), 0);
        due("send", send(x, 0), 0);
        due("best(0)", x.best(0), 0);
        due("best(1)", x.best(1), 0);
    }

    @Case(promise = 1, says = "NONE = -1")
    static void none() {
        due("NONE", DanceWine.NONE, -1);
    }

    @Case(promise = 1, says = "a new object: none of another one's cellar, tape and marks")
    static void objectsApart() {
        DanceWine other = cellar("hall 8 7;dance d rest;wine w glasses 3 of d 1;guest g plain at 1 1 way 0 age 0;"
                + "carriage 2 2;");
        pour(other, 0, 0);
        other.mark(0, false);
        other.see(0, 1, 1);
        fed(other, "hall");
        DanceWine x = new DanceWine();
        due("state", state(x), "2 2 0 0 0 0 0 0 0 0 | -1 -1");
        due("mark", x.mark(0, true), false);
        due("the other one's tape", other.count(9), 4);
    }

    // ---- promise 2

    @Case(promise = 2, says = "others than 10 and 32 .. 126 are left out: each byte by itself")
    static void eachByte() {
        for (int b = 0; b < 256; b++) {
            int want = b == 10 || b >= 32 && b <= 126 ? 1 : 0;
            due("byte " + b, new DanceWine().feed((long) b << 56, 0, 0), want);
        }
    }

    @Case(promise = 2, says = "up to 24 signs: a sign at each of the 24 places, the others left out")
    static void eachPlace() {
        for (int s : SHIFTS) {
            due("a << " + s, new DanceWine().feed((long) 'x' << s, 0, 0), 1);
            due("b << " + s, new DanceWine().feed(0, (long) 'x' << s, 0), 1);
            due("c << " + s, new DanceWine().feed(0, 0, (long) 'x' << s), 1);
        }
    }

    @Case(promise = 2, says = "up to 24 signs: all, none, and one less than all")
    static void howManySigns() {
        due("24", fed(new DanceWine(), "x".repeat(24)), 24);
        due("23", fed(new DanceWine(), "x".repeat(23)), 23);
        due("none", fed(new DanceWine(), ""), 0);
        due("all bytes 255", new DanceWine().feed(-1, -1, -1), 0);
    }

    @Case(promise = 2, says = "the bytes of a, b, c, of each the highest first")
    static void bytesInOrder() {
        DanceWine x = new DanceWine();
        // "hall 7 5", ";carriag", "e 6 4; "
        due("feed", x.feed(0x68616c6c20372035L, 0x3b63617272696167L, 0x65203620343b2000L), 23);
        due("cellar", x.cellar(), 0);
        due("wide", x.count(0), 7);
        due("deep", x.count(1), 5);
        due("carriage", x.count(8), 4 * 8 + 6);
    }

    @Case(promise = 2, says = "they come behind the TAPE: how many there are (on it)")
    static void behindTheTape() {
        DanceWine x = new DanceWine();
        due("first", fed(x, "hall 3 "), 7);
        due("second", fed(x, "4;"), 9);
        due("nothing more", fed(x, ""), 9);
        due("cellar", x.cellar(), 0);
        due("deep", x.count(1), 4);
    }

    @Case(promise = 2, says = "left out: no gap is where a sign was left out")
    static void noGap() {
        DanceWine x = new DanceWine();
        // h a 0 l 127 l 9 32 5 255 32 31 5 ; 200
        x.feed(0x6861006c7f6c0920L, 0x35ff201f353bc800L, 0);
        due("signs", x.count(9), 9);
        due("cellar", x.cellar(), 0);
        due("wide", x.count(0), 5);
    }

    @Case(promise = 2, says = "what is beyond 1,000 is left out: the 1,000th is taken, the 1,001st not")
    static void thousand() {
        DanceWine x = new DanceWine();
        Check.feed(x, " ".repeat(999));
        due("999", x.count(9), 999);
        due("the 1,000th", fed(x, " "), 1000);
        due("the 1,001st", fed(x, " "), 1000);
    }

    @Case(promise = 2, says = "what is beyond 1,000 is left out: of 24 signs the first ones are taken")
    static void thousandWithin() {
        DanceWine x = new DanceWine();
        Check.feed(x, "hall 3 3;" + " ".repeat(975));
        due("984", x.count(9), 984);
        due("16 of 24", fed(x, "pillar 1 1;     x;;;;;;;"), 1000);
        // had one more been taken, the fault were at it
        due("cellar", x.cellar(), 0);
        DanceWine y = new DanceWine();
        Check.feed(y, "hall 3 3;" + " ".repeat(975));
        fed(y, "pillar 1 1;    x;;;;;;;;");
        due("the 1,000th sign is there", y.cellar(), 1 + 16 * 999);
    }

    @Case(promise = 2, says = "beyond 1,000 is left out: signs that are none do not fill the TAPE")
    static void noneFillsNot() {
        DanceWine x = new DanceWine();
        for (int n = 0; n < 60; n++) {
            x.feed(0, -1, 0x7f7f7f7f7f7f7f7fL);
        }
        due("none", x.count(9), 0);
        due("hall", fed(x, "hall 4 4;"), 9);
        due("cellar", x.cellar(), 0);
    }

    @Case(promise = 2, says = "what reads the TAPE takes it: it is empty then, and can be filled anew")
    static void emptyAgain() {
        DanceWine x = new DanceWine();
        Check.feed(x, "hall 3 3;" + " ".repeat(991));
        due("cellar", x.cellar(), 0);
        due("empty", x.count(9), 0);
        due("from the first", fed(x, "hall 4 4;"), 9);
        due("cellar", x.cellar(), 0);
        due("wide", x.count(0), 4);
        Check.feed(x, "x" + " ".repeat(999));
        due("full again", x.count(9), 1000);
        due("a fault", x.cellar(), 1);
        due("empty behind a fault, too", x.count(9), 0);
    }

    // ---- promise 25

    @Case(promise = 25, says = "NONE for another what: below and beyond")
    static void countOthers() {
        DanceWine x = cellar("hall 8 8;guest g plain at 0 0 way 0 age 0;");
        int[] others = {-1, 10, -2, 11, MIN, MAX};
        for (int what : others) {
            due("count(" + what + ")", x.count(what), -1);
        }
    }

    @Case(promise = 25, says = "0: wide, 1: deep: the least and the largest hall")
    static void countHall() {
        DanceWine x = cellar("hall 2 8;");
        due("wide", x.count(0), 2);
        due("deep", x.count(1), 8);
        x = cellar("hall 8 2;");
        due("wide", x.count(0), 8);
        due("deep", x.count(1), 2);
    }

    @Case(promise = 25, says = "2: DANCES, 3: WINES, 4: GUESTS: none of one, six of each")
    static void countSix() {
        DanceWine x = cellar("hall 2 2;dance d rest;guest g plain at 0 0 way 0 age 0;");
        due("one dance", x.count(2), 1);
        due("no wine", x.count(3), 0);
        due("one guest", x.count(4), 1);
        x = cellar(CellarCases.full());
        due("dances", x.count(2), 6);
        due("wines", x.count(3), 6);
        due("guests", x.count(4), 6);
    }

    @Case(promise = 25, says = "5: glasses left in all: none, and six times 99")
    static void countGlasses() {
        DanceWine x = cellar("hall 2 2;dance d rest;wine w glasses 0 of d 1;guest g plain at 0 0 way 0 age 0;");
        due("none", x.count(5), 0);
        x = cellar(CellarCases.full());
        due("all", x.count(5), 594);
        pour(x, 5, 5, 0);
        due("two less", x.count(5), 592);
        x.water(5);
        due("water gives none back", x.count(5), 592);
        x.undo();
        due("nor does it undone", x.count(5), 592);
        x.undo();
        due("a glass undone does", x.count(5), 593);
    }

    @Case(promise = 25, says = "6: GUESTS SEEN: none, all six, one seen twice counts once")
    static void countSeen() {
        DanceWine x = cellar(CellarCases.full());
        due("none", x.count(6), 0);
        for (int g = 0; g < 6; g++) {
            x.see(g, g, g);
        }
        due("six", x.count(6), 6);
        x.see(0, 7, 7);
        due("seen anew", x.count(6), 6);
        x.see(0, -1, 0);
        due("not any more", x.count(6), 5);
        x.see(0, -1, 0);
        due("not any more, twice", x.count(6), 5);
    }

    @Case(promise = 25, says = "7: how many can be undone: none, 20 at most")
    static void countUndo() {
        DanceWine x = cellar(CellarCases.full());
        due("none", x.count(7), 0);
        for (int n = 1; n <= 22; n++) {
            x.pour(n % 6, 0);
            due("behind " + n, x.count(7), Math.min(n, 20));
        }
        x.undo();
        due("one less", x.count(7), 19);
    }

    @Case(promise = 25, says = "8: the carriage as y * 8 + x (0, 0 without a line): the far corners")
    static void countCarriage() {
        due("without a line", cellar("hall 8 8;").count(8), 0);
        due("0, 0", cellar("hall 8 8;carriage 0 0;").count(8), 0);
        due("7, 7", cellar("hall 8 8;carriage 7 7;").count(8), 63);
        due("7, 0", cellar("hall 8 2;carriage 7 0;").count(8), 7);
        due("0, 7", cellar("hall 2 8;carriage 0 7;").count(8), 56);
    }

    @Case(promise = 25, says = "9: signs on the TAPE: none, 1,000")
    static void countSigns() {
        DanceWine x = new DanceWine();
        due("none", x.count(9), 0);
        Check.feed(x, ";".repeat(1000));
        due("full", x.count(9), 1000);
        x.cellar();
        due("taken", x.count(9), 0);
    }
}
