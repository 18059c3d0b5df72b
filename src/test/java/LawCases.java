/** Boundary cases of the law of stagger: promise 3 (how it is read) and promise 11 (which STEPS it loses). */
final class LawCases extends Cases {
    private static final String H = "hall 4 4;stagger ";

    /** Whether a law is so for the fifth step of the second of three glasses, of a guest aged 40. */
    private static void law(String law, boolean so) {
        DanceWine x = cellar("hall 8 8;dance d rest rest rest rest rest;wine w glasses 9 of d 1;"
                + "guest g plain at 3 3 way 0 age 40;stagger glass=1 and step=4 and(" + law + ");");
        pour(x, 0, 0, 0, 0);
        due(law, x.walk(0, 2), so ? 1 : 0);
    }

    // ---- promise 3

    @Case(promise = 3, says = "stagger: once; a second time: 3 at the word")
    static void twice() {
        fault(3, H + "1;^stagger 0;");
        fault(3, H + "1;^stagger");
        fault(3, H + "0;^stagger 0;");
    }

    @Case(promise = 3, says = "stagger E ; : no E at all")
    static void empty() {
        fault(1, H + "^;");
        fault(1, H + "(^);");
        fault(1, H + "^");
    }

    @Case(promise = 3, says = "TEST: SUM, SUM < SUM, SUM = SUM: a second comparison can't stand there")
    static void comparesOnce() {
        fault(1, H + "1<2^<3;");
        fault(1, H + "1<2^=3;");
        fault(1, H + "1=2^<3;");
        fault(1, H + "1=2^=3;");
        fault(1, H + "1=2+3*4-5^=6;");
        fault(1, H + "1 and 1<2^<3;");
        fault(1, H + "(1<2^<3);");
        fault(1, H + "not(1<2^<3);");
    }

    @Case(promise = 3, says = "TEST: a comparison in each TEST and in each ( )")
    static void comparesAgain() {
        fine(H + "1<2 and 3<4 or 5=6;");
        fine(H + "(1<2)<3;");
        fine(H + "1<(2<3);");
        fine(H + "(1<2)=(3=4);");
        fine(H + "1<not 2 and 3=not(4<5);");
    }

    @Case(promise = 3, says = "PART: a NUMBER, a fact, not PART, ( E ): nothing else can begin one")
    static void partBegins() {
        for (String word : ") < = + - * ; and or x glasses way at hall ahead old stagger &".split(" ")) {
            fault(1, H + "^" + word);
            fault(1, H + "1+^" + word);
            fault(1, H + "not ^" + word);
            fault(1, H + "(^" + word);
            fault(1, H + "1<^" + word);
            fault(1, H + "1 and ^" + word);
        }
    }

    @Case(promise = 3, says = "behind a PART: a PART, a WORD, a ) too many can't stand there")
    static void behindPart() {
        for (String word : "1 age glass not ( ) x at &".split(" ")) {
            fault(1, H + "1 ^" + word);
            fault(1, H + "age ^" + word);
            fault(1, H + "(1)^" + word);
            fault(1, H + "not 1 ^" + word);
        }
    }

    @Case(promise = 3, says = "( E ): a ) too few")
    static void tooFewClosed() {
        fault(1, H + "(1^;");
        fault(1, H + "((1)^;");
        fault(1, H + "(1+(2)*3^;");
        fault(1, H + "not(1^;");
        fault(1, H + "(1^");
    }

    @Case(promise = 3, says = "facts: glass, step, age, drunk, and no name of a dance, a wine, a guest")
    static void facts() {
        fine(H + "glass+step+age+drunk;");
        fault(1, "hall 4 4;dance d rest;stagger ^d;");
        fault(1, "hall 4 4;guest g old at 0 0 way 0 age 0;stagger ^g;");
        fine("hall 4 4;dance glass rest;dance step rest;stagger glass=step;");
    }

    @Case(promise = 3, says = "no PART lies within 5 of not and ( ): 4 are fine")
    static void fourDeep() {
        fine(H + "not not not not 1;");
        fine(H + "((((1))));");
        fine(H + "not(not(1));");
        fine(H + "(not(not 1));");
        fine(H + "not not(not 1);");
        fine(H + "((((age+step*drunk<glass and 7))));");
    }

    @Case(promise = 3, says = "a PART within 5 others: 5 at the PART: a NUMBER, each fact")
    static void fiveDeep() {
        for (String part : "1 9999 glass step age drunk".split(" ")) {
            fault(5, H + "not not not not not ^" + part + ";");
            fault(5, H + "(((((^" + part + ")))));");
            fault(5, H + "not(not(not ^" + part + "));");
            fault(5, H + "(not(not(^" + part + ")));");
        }
    }

    @Case(promise = 3, says = "not within 5 others: 5 at the not; ( likewise")
    static void fiveDeepNot() {
        fault(5, H + "not not not not not ^not 1;");
        fault(5, H + "(((((^not 1)))));");
        fault(5, H + "not not not not not ^(1);");
        fault(5, H + "(((((^(1))))));");
    }

    @Case(promise = 3, says = "of the first wrong token the least: what can begin no PART within 5 others is 1")
    static void fiveDeepLeast() {
        for (String word : ") ; + and x & 10000".split(" ")) {
            fault(1, H + "not not not not not ^" + word);
            fault(1, H + "(((((^" + word);
        }
        fault(1, H + "(((((^");
    }

    @Case(promise = 3, says = "within: what is closed, or lies in a not's PART ahead, counts no more")
    static void depthFalls() {
        fine(H + "((((1))))+((((1))));");
        fine(H + "not not not not 1 and not not not not 1;");
        fine(H + "not not not not 1*not not not not 1;");
        fine(H + "not not not(1)+((((1))));");
        fine(H + "(not not not 1+(((1)))+not not not 1);");
        fault(5, H + "((((1))))+(((((^1)))));");
        fault(5, H + "(((1)+((not ^1))));");
        fault(5, H + "(not 1+not 1+((((^1)))));");
    }

    @Case(promise = 3, says = "an E as long as the TAPE")
    static void longLaw() {
        StringBuilder t = new StringBuilder(H + "1");
        while (t.length() + 3 <= 1000) {
            t.append("+1");
        }
        t.append(t.length() == 999 ? ";" : " ;");
        due("length", t.length(), 1000);
        fine(t.toString());
    }

    @Case(promise = 3, says = "of a law with a FAULT nothing is left: not in the law that is told next")
    static void behindAFault() {
        String t = "hall 8 8;dance d ahead;wine w glasses 9 of d 1;guest g plain at 0 0 way 0 age 0;stagger ";
        String[] wrong = {"not not not not not 1;", "((((1+2*3<4^;", "(1 and(2 or(3<4 x", "1+2*", "not not not not &", "(((((1"};
        String[] laws = {"0;", "1;", "not not not not 1;", "((((0))));", "not 1;", "1-1;", "0 or 1;"};
        boolean[] so = {false, true, true, false, false, false, true};
        DanceWine x = new DanceWine();
        for (int n = 0; n < wrong.length; n++) {
            due(wrong[n], Check.told(x, t + wrong[n]) > 0, true);
            int law = n % laws.length;
            due(laws[law], Check.told(x, t + laws[law]), 0);
            pour(x, 0, 0);
            due("lost by " + laws[law], x.walk(0, 2), so[law] ? 1 : 0);
        }
        for (String law : wrong) {
            for (int n = 0; n < laws.length; n++) {
                DanceWine y = new DanceWine();
                Check.told(y, t + law);
                due(laws[n], Check.told(y, t + laws[n]), 0);
                pour(y, 0, 0);
                due("lost by " + laws[n] + " behind " + law, y.walk(0, 2), so[n] ? 1 : 0);
            }
        }
    }

    @Case(promise = 3, says = "a law told behind another: of the other nothing is left")
    static void behindALaw() {
        String t = "hall 8 8;dance d ahead;wine w glasses 9 of d 1;guest g plain at 0 0 way 0 age 0;";
        DanceWine x = new DanceWine();
        String[] laws = {"stagger not(1+2*3<4 and 5)or 6;", "stagger not(1+2*3<4 and 5)or 6;", "", "", "stagger 0;", "",
            "stagger 1;", "stagger 0;", "", "stagger 22;", "stagger 22;", "stagger 1;", "stagger 1;"};
        int[] lost = {1, 1, 0, 0, 0, 0, 1, 0, 0, 1, 1, 1, 1};
        for (int n = 0; n < laws.length; n++) {
            due(laws[n], Check.told(x, t + laws[n]), 0);
            pour(x, 0, 0);
            due("lost by " + laws[n], x.walk(0, 2), lost[n]);
        }
    }

    // ---- promise 11

    @Case(promise = 11, says = "and, or from the left: neither binds more than the other")
    static void fromTheLeft() {
        law("1 or 0 and 0", false);
        law("1 or 1 and 0", false);
        law("0 and 0 or 1", true);
        law("0 and 1 or 1", true);
        law("1 or(0 and 0)", true);
        law("0 and(0 or 1)", false);
    }

    @Case(promise = 11, says = "SUM: from the left; PRODUCT ahead of SUM, SUM ahead of < and =, these ahead of and, or")
    static void ranks() {
        law("9-3-2=4", true);
        law("9-3+2=8", true);
        law("2+3*4=14", true);
        law("2*3+4=10", true);
        law("20-2*3*2-1=7", true);
        law("1+1<3", true);
        law("3<1+1", false);
        law("0=1 or 1=1", true);
        law("2 and 1=1", true);
        law("1=1 and 2", true);
    }

    @Case(promise = 11, says = "not PART: of the PART alone")
    static void notBinds() {
        law("not 0*0", false);
        law("not 0+1=2", true);
        law("not 1=0", true);
        law("not 1<1", true);
        law("not(1<2)", false);
        law("not not 5=1", true);
        law("not not not 5=0", true);
        law("not 0 and 0", false);
    }

    @Case(promise = 11, says = "of not, and, or, < and = comes 1 or 0")
    static void oneOrNought() {
        law("not 7=0", true);
        law("not 0=1", true);
        law("(7 and 9)=1", true);
        law("(7 and 0)=0", true);
        law("(0 or 9)=1", true);
        law("(0 or 0)=0", true);
        law("(3<9)=1", true);
        law("(9<3)=0", true);
        law("(9=9)=1", true);
        law("(9=8)=0", true);
    }

    @Case(promise = 11, says = "what is not 0 is so: 1, more, below 0")
    static void notNought() {
        law("1", true);
        law("9999", true);
        law("0-1", true);
        law("0", false);
        law("5-5", false);
        law("0-1 and 0-2", true);
        law("0 or 0-1", true);
        law("not(0-1)", false);
    }

    @Case(promise = 11, says = "<: equal ones, below 0")
    static void less() {
        law("3<3", false);
        law("3<4", true);
        law("4<3", false);
        law("0-4<0-3", true);
        law("0-3<0-4", false);
        law("0-1<0", true);
    }

    @Case(promise = 11, says = "ints wrap: products")
    static void productsWrap() {
        law("9999*9999*21<0", false);
        law("9999*9999*22<0", true);
        law("2048*2048*512<0", true);
        law("2048*2048*512-1<0", false);
        law("2048*2048*1024", false);
        law("2048*2048*1024=0", true);
    }

    @Case(promise = 11, says = "ints wrap: sums and differences; < compares, it does not subtract")
    static void sumsWrap() {
        law("9999*9999*21+9999*9999<0", true);
        law("0-9999*9999*21-9999*9999<0", false);
        law("0-9999*9999*21<9999*9999*21", true);
        law("9999*9999*21<0-9999*9999*21", false);
        law("2048*2048*512=0-2048*2048*512", true);
    }

    @Case(promise = 11, says = "glass (which one it drank, from 0): each of six")
    static void glassFact() {
        for (int n = 0; n < 7; n++) {
            DanceWine x = cellar("hall 8 8;dance d ahead;wine w glasses 9 of d 1;guest g plain at 0 0 way 0 age 40;"
                    + "stagger glass<" + n + ";");
            pour(x, 0, 0, 0, 0, 0, 0, 0);
            due("lost of glass<" + n, x.walk(0, 2), n);
            due("cell of glass<" + n, x.walk(0, 0), (6 - n) * 8);
        }
    }

    @Case(promise = 11, says = "step (which one of that glass, from 0): over all parts of a wine, anew in each glass")
    static void stepFact() {
        String t = "hall 8 8;dance d rest rest rest rest rest rest rest rest;dance e rest rest rest rest rest rest rest"
                + " hop;dance f rest rest rest rest rest rest rest left;wine w glasses 9 of d 4 e 4 f 4;"
                + "guest g plain at 0 0 way 0 age 40;stagger step";
        int[] lost = {1, 1, 1, 0};
        int[] at = {0, 32, 95, 96};
        for (int n = 0; n < at.length; n++) {
            DanceWine x = cellar(t + "=" + at[n] + ";");
            pour(x, 0, 0);
            due("one glass, step=" + at[n], x.walk(0, 2), lost[n]);
            pour(x, 0, 0);
            due("two glasses, step=" + at[n], x.walk(0, 2), 2 * lost[n]);
        }
    }

    @Case(promise = 11, says = "age: the least and the highest, of each GUEST its own")
    static void ageFact() {
        DanceWine x = cellar("hall 8 8;dance d ahead;wine w glasses 9 of d 1;guest g plain at 0 0 way 0 age 0;"
                + "guest h plain at 1 0 way 0 age 99;stagger age=99 or age=0-1;");
        pour(x, 0, 0);
        pour(x, 1, 0);
        due("age 0", x.walk(0, 2), 0);
        due("age 99", x.walk(1, 2), 1);
    }

    @Case(promise = 11, says = "drunk (how many glasses the GUEST has): 1 to 6, of that GUEST alone")
    static void drunkFact() {
        DanceWine x = cellar("hall 8 8;dance d ahead;wine w glasses 9 of d 1;guest g plain at 0 0 way 0 age 0;"
                + "guest h plain at 1 0 way 0 age 0;stagger drunk=1 or drunk=6;");
        int[] lost = {0, 1, 0, 0, 0, 0, 6};
        for (int n = 1; n <= 6; n++) {
            pour(x, 0, 0);
            due("drunk " + n, x.walk(0, 2), lost[n]);
        }
        pour(x, 1, 0);
        due("another guest", x.walk(1, 2), 1);
        x.water(0);
        due("water", x.walk(0, 2), 0);
        x.undo();
        due("undone", x.walk(0, 2), 6);
    }

    @Case(promise = 11, says = "glass of an old one: which one it drank, not which it dances")
    static void glassOfOldOne() {
        DanceWine x = cellar("hall 8 8;dance d ahead;dance e hop;wine w glasses 9 of d 1;wine v glasses 9 of e 1;"
                + "guest o old at 0 0 way 0 age 0;stagger glass=0;");
        pour(x, 0, 0, 1, 1);
        due("lost", x.walk(0, 2), 1);
        due("the first it drank is lost", x.walk(0, 0), 4 * 8);
    }

    @Case(promise = 11, says = "Without a line it is 0: none is LOST")
    static void withoutLine() {
        DanceWine x = cellar("hall 8 8;dance d ahead;wine w glasses 9 of d 4;guest g plain at 0 0 way 0 age 99;");
        pour(x, 0, 0);
        due("lost", x.walk(0, 2), 0);
        due("cell", x.walk(0, 0), 32);
    }

    @Case(promise = 11, says = "the law holds wherever in the text its line stands")
    static void lawAhead() {
        DanceWine x = cellar("hall 8 8;stagger step=0;dance d ahead;wine w glasses 9 of d 4;"
                + "guest g plain at 0 0 way 0 age 99;");
        pour(x, 0, 0);
        due("lost", x.walk(0, 2), 1);
    }
}
