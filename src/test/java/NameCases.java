/** Boundary cases of promise 3 (cellar): tokens and names. */
final class NameCases extends Cases {
    private static final String[] KEPT = ("hall pillar carriage dance wine glasses of guest at way age stagger ahead hop"
            + " left right rest plain waiter lame uncle old not and or").split(" ");

    @Case(promise = 3, says = "WORDS, 8 letters at most; a longer one is none, at its first sign")
    static void longWord() {
        fine("hall 4 4;dance abcdefgh rest;");
        fault(1, "hall 4 4;dance ^abcdefghi rest;");
        fault(1, "hall 4 4;dance ^" + "z".repeat(500) + " rest;");
        fault(1, "hall 4 4;dance d ^restrestr;");
        fault(1, "hall 4 4;^carriages 1 1;");
    }

    @Case(promise = 3, says = "a longer WORD is none: not the WORD of its first or last 8 letters")
    static void longWordIsNoName() {
        fault(1, "hall 4 4;dance abcdefgh rest;wine w glasses 1 of ^abcdefghi 1;");
        fault(1, "hall 4 4;dance abcdefgh rest;wine w glasses 1 of ^zabcdefgh 1;");
        fault(1, "^" + "x".repeat(8) + "hall 4 4;");
        fault(1, "hall 4 4;^" + "x".repeat(8) + "carriage 1 1;");
    }

    @Case(promise = 3, says = "WORDS of letters a .. z: the first and the last letter; no other sign")
    static void letters() {
        fine("hall 4 4;dance az rest;wine za glasses 1 of az 1;");
        fault(1, "hall 4 4;dance ^A rest;");
        fault(1, "hall 4 4;dance a^Z rest;");
        fault(1, "hall 4 4;dance a^` rest;");
        fault(1, "hall 4 4;dance a^{ rest;");
        fault(1, "hall 4 4;dance a^_b rest;");
    }

    @Case(promise = 3, says = "NUMBERS, 1 to 4 digits; a longer one is none, at its first sign")
    static void longNumber() {
        fine("hall 4 4;stagger 9999;");
        fine("hall 4 4;stagger 0000;");
        fault(1, "hall 4 4;stagger ^10000;");
        fault(1, "hall 4 4;stagger ^00000;");
        fault(1, "hall ^00004 4;");
        fault(1, "hall 4 4;stagger ^" + "9".repeat(300) + ";");
        // 4294967298 is 2 if it wraps
        fault(1, "hall ^4294967298 2;");
    }

    @Case(promise = 3, says = "NUMBERS: noughts ahead")
    static void noughtsAhead() {
        DanceWine x = cellar("hall 0008 02;guest g old at 0007 001 way 003 age 0099;");
        due("wide", x.count(0), 8);
        due("deep", x.count(1), 2);
        due("cell", x.guest(0, 1), 15);
        due("way", x.guest(0, 2), 3);
        due("age", x.guest(0, 3), 99);
    }

    @Case(promise = 3, says = "NUMBERS: the digits 0 and 9, and the signs next to them")
    static void digits() {
        due("age", cellar("hall 4 4;guest g old at 0 0 way 0 age 90;").guest(0, 3), 90);
        due("age", cellar("hall 4 4;guest g old at 0 0 way 0 age 09;").guest(0, 3), 9);
        fault(1, "hall 4^/4;");
        fault(1, "hall 4^:4;");
    }

    @Case(promise = 3, says = "a letter may stand right behind a NUMBER")
    static void letterBehindNumber() {
        fine("hall 4 4;guest g old at 0 0way 0age 0;");
        fine("hall 4 4;dance d rest;wine w glasses 1of d 1;");
        fine("hall 4 4;dance d rest;dance e rest;wine w glasses 1of d 1e 1;");
        fault(1, "hall 4^x4;");
    }

    @Case(promise = 3, says = "each token as long as can be: a NUMBER right behind a WORD is another")
    static void numberBehindWord() {
        fine("hall4 4;pillar1 1;");
        fine("hall 4 4;dance d rest;wine w glasses1 of d1;");
        fault(1, "hall 4 4;dance d^1 rest;");
    }

    @Case(promise = 3, says = "each token as long as can be: no blank between, one token")
    static void asLongAsCanBe() {
        fault(4, "hall ^44;");
        fault(1, "^hallhall 4 4;");
        fault(1, "hall 4 4;^pillarx 1 1;");
        fault(2, "hall 4 4;dance d rest;wine w glasses 1 of ^dd 1;");
        fault(4, "hall 4 4;pillar ^11;");
    }

    @Case(promise = 3, says = "blanks (10, 32) between where one likes: none, many, 10 alone, ahead and behind")
    static void blanks() {
        fine("hall 4 4;dance d rest;stagger(1)+(2)*3<4;");
        fine("\n\n  hall\n4\n4\n;\n\ndance\nd\nrest\n;\n");
        fine("   hall    4    4   ;   ");
        due("between two digits", Check.told(new DanceWine(), "hall 4\n4;"), 0);
        fault(1, "^ha ll 4 4;");
    }

    @Case(promise = 3, says = "the signs ( ) < = + - * ; are tokens, all else is none: 1 either way where none can stand")
    static void otherSigns() {
        for (char c = 33; c < 127; c++) {
            boolean sort = c >= 'a' && c <= 'z' || c >= '0' && c <= '9' || c == '^';
            if (!sort && c != ';') {
                fault(1, "hall 4 4^" + c + ";");
            }
        }
        due("^", Check.told(new DanceWine(), "hall 4 4^;"), 1 + 16 * 8);
    }

    @Case(promise = 3, says = "the signs in a law: those of the eight that can stand behind a PART, and no other")
    static void signsInLaw() {
        for (char c = 33; c < 127; c++) {
            boolean sort = c >= 'a' && c <= 'z' || c >= '0' && c <= '9' || c == '^';
            if ("<=+-*".indexOf(c) >= 0) {
                fine("hall 4 4;stagger 1" + c + "1;");
            } else if (!sort && c != ';') {
                fault(1, "hall 4 4;stagger 1^" + c + "1;");
            }
        }
    }

    @Case(promise = 3, says = "a NAME is another WORD than these: of a dance")
    static void keptForDance() {
        for (String word : KEPT) {
            fault(1, "hall 4 4;dance ^" + word + " rest;");
        }
    }

    @Case(promise = 3, says = "a NAME is another WORD than these: of a wine")
    static void keptForWine() {
        for (String word : KEPT) {
            fault(1, "hall 4 4;dance d rest;wine ^" + word + " glasses 1 of d 1;");
        }
    }

    @Case(promise = 3, says = "a NAME is another WORD than these: of a guest")
    static void keptForGuest() {
        for (String word : KEPT) {
            fault(1, "hall 4 4;guest ^" + word + " plain at 0 0 way 0 age 0;");
        }
    }

    @Case(promise = 3, says = "a NAME is another WORD than these: in a wine's parts they are 1, not 2")
    static void keptForPart() {
        for (String word : KEPT) {
            fault(1, "hall 4 4;dance d rest;wine w glasses 1 of ^" + word + " 1;");
        }
    }

    @Case(promise = 3, says = "a NAME is another WORD than these: glass, step, drunk and a WORD one letter off are NAMES")
    static void nearlyKept() {
        fine("hall 4 4;dance glass rest;dance step rest;wine drunk glasses 1 of glass 1 step 1;");
        fine("hall 4 4;guest glass plain at 0 0 way 0 age 0;guest step plain at 0 0 way 0 age 0;");
        for (String word : KEPT) {
            String shorter = word.substring(0, word.length() - 1);
            fine("hall 4 4;dance " + shorter + " rest;");
            if (word.length() < 8) {
                fine("hall 4 4;dance " + word + "x rest;");
            }
        }
    }

    @Case(promise = 3, says = "no two alike: two DANCES, two WINES, two GUESTS")
    static void alikeOfOneSort() {
        fault(3, "hall 4 4;dance d rest;dance ^d rest;");
        fault(3, "hall 4 4;dance d rest;wine w glasses 1 of d 1;wine ^w glasses 1 of d 1;");
        fault(3, "hall 4 4;guest g old at 0 0 way 0 age 0;guest ^g old at 0 0 way 0 age 0;");
    }

    @Case(promise = 3, says = "no two alike: a WINE or a GUEST as a DANCE, whichever comes first")
    static void alikeDance() {
        fault(3, "hall 4 4;dance d rest;wine ^d glasses 1 of d 1;");
        fault(3, "hall 4 4;dance d rest;guest ^d old at 0 0 way 0 age 0;");
        fault(3, "hall 4 4;dance d rest;wine w glasses 1 of d 1;dance ^w rest;");
        fault(3, "hall 4 4;guest g old at 0 0 way 0 age 0;dance ^g rest;");
    }

    @Case(promise = 3, says = "no two alike: a GUEST as a WINE, whichever comes first")
    static void alikeWine() {
        fault(3, "hall 4 4;dance d rest;wine w glasses 1 of d 1;guest ^w old at 0 0 way 0 age 0;");
        fault(3, "hall 4 4;dance d rest;guest g old at 0 0 way 0 age 0;wine ^g glasses 1 of d 1;");
    }

    @Case(promise = 3, says = "no two alike: the first of six and the last of six")
    static void alikeFirstAndLast() {
        String t = CellarCases.full().replace("guest gf plain at 5 0 way 0 age 9;", "");
        for (String name : "da df wa wf ga ge".split(" ")) {
            fault(3, t + "guest ^" + name + " old at 0 0 way 0 age 0;");
        }
        fine(t + "guest gf old at 0 0 way 0 age 0;");
    }

    @Case(promise = 3, says = "alike: not those that differ in one letter or in length")
    static void notAlike() {
        fine("hall 4 4;dance abcdefgh rest;dance abcdefgi rest;dance bbcdefgh rest;dance abcdefg rest;dance a rest;"
                + "dance aa rest;wine aaa glasses 1 of a 1 aa 1;");
        DanceWine x = cellar("hall 4 4;dance a hop;dance aa left;wine w glasses 1 of aa 1;wine v glasses 1 of a 1;");
        due("aa", x.step(0, 0), 2);
        due("a", x.step(1, 0), 1);
    }

    @Case(promise = 3, says = "a NAME told already is 3 though its line is wrong further on; the seventh's word is 5 ahead of it")
    static void alikeFirst() {
        fault(3, "hall 4 4;dance d rest;dance ^d 4");
        fault(5, CellarCases.full() + "^dance da");
    }

    @Case(promise = 3, says = "all else is none: each other sign where a line begins, a NAME, a STEP, a KIND is due, at the end")
    static void otherSignsElsewhere() {
        String[] ahead = {"", "hall 4 4;", "hall 4 4;dance ", "hall 4 4;dance d ", "hall 4 4;dance d rest",
            "hall 4 4;dance d rest;wine w glasses 1 of ", "hall 4 4;guest g ", "hall 4 4;stagger "};
        for (String text : ahead) {
            for (char c = 33; c < 127; c++) {
                boolean sort = c >= 'a' && c <= 'z' || c >= '0' && c <= '9';
                if (!sort && "()<=+-*;".indexOf(c) < 0) {
                    due(text + c, Check.told(new DanceWine(), text + c), 1 + 16 * text.length());
                    due(text + c + ";", Check.told(new DanceWine(), text + c + ";"), 1 + 16 * text.length());
                }
            }
        }
    }
}
