/** Boundary cases of promises 10 (undo) and 24 (mark). */
final class UndoCases extends Cases {
    private static final String T = "hall 8 6;dance a ahead hop left;dance b right rest;"
            + "wine w glasses 30 of b 2 a 1;wine v glasses 1 of a 4;"
            + "guest p plain at 3 3 way 0 age 9;guest q old at 1 1 way 0 age 9;";

    // ---- promise 10

    @Case(promise = 10, says = "false: nothing can be: at first, and behind the last one")
    static void nothing() {
        DanceWine x = cellar(T);
        String before = state(x);
        due("at first", x.undo(), false);
        due("nothing changed", state(x), before);
        pour(x, 0, 0);
        due("one", x.undo(), true);
        due("no more", x.undo(), false);
        due("as at first", state(x), before);
    }

    @Case(promise = 10, says = "a glass that is undone is in the bottle again: the last one of a bottle")
    static void glassUndone() {
        DanceWine x = cellar(T);
        pour(x, 0, 1);
        due("undo", x.undo(), true);
        due("bottle", x.wine(1, 0), 1);
        due("not drunk", x.guest(0, 4), 0);
        due("not danced", x.walk(0, 0), 27);
        due("it can be poured", x.pour(1, 1), true);
    }

    @Case(promise = 10, says = "water undone: the glass is drunk again, the bottle as it was")
    static void waterUndone() {
        DanceWine x = cellar(T);
        pour(x, 0, 0, 1);
        String before = state(x);
        x.water(0);
        due("undo", x.undo(), true);
        due("as before", state(x), before);
        due("the last", x.glass(0, 1), 1);
        due("bottle", x.wine(1, 0), 0);
    }

    @Case(promise = 10, says = "one by one: the last first, of all GUESTS together")
    static void oneByOne() {
        DanceWine x = cellar(T);
        String[] states = new String[4];
        states[0] = state(x);
        pour(x, 0, 0);
        states[1] = state(x);
        pour(x, 1, 1);
        states[2] = state(x);
        x.water(0);
        states[3] = state(x);
        pour(x, 1, 0);
        for (int n = 3; n >= 0; n--) {
            due("undo", x.undo(), true);
            due("state " + n, state(x), states[n]);
        }
    }

    @Case(promise = 10, says = "the last 20: 20 are undone, the first of 21 not")
    static void lastTwenty() {
        DanceWine x = cellar(T);
        pour(x, 1, 1);
        for (int n = 0; n < 10; n++) {
            pour(x, 0, 0);
            due("water", x.water(0), true);
        }
        due("21 done", x.count(7), 20);
        for (int n = 0; n < 20; n++) {
            due("undo " + n, x.undo(), true);
        }
        due("the 21st", x.undo(), false);
        due("the first glass stays", x.glass(1, 0), 1);
        due("the others are back", x.wine(0, 0), 30);
    }

    @Case(promise = 10, says = "the last 20: exactly 20 are all undone")
    static void exactlyTwenty() {
        DanceWine x = cellar(T);
        String before = state(x);
        for (int n = 0; n < 10; n++) {
            pour(x, 0, 0);
            due("water", x.water(0), true);
        }
        due("20 done", x.count(7), 20);
        for (int n = 0; n < 20; n++) {
            due("undo " + n, x.undo(), true);
        }
        due("as at first", state(x), before);
        due("no more", x.undo(), false);
    }

    @Case(promise = 10, says = "the last 20: of 45 the last; behind some undone, new ones come in their place")
    static void twentyOfMany() {
        DanceWine x = cellar(T);
        for (int n = 0; n < 22; n++) {
            pour(x, 0, 0);
            due("water", x.water(0), true);
        }
        pour(x, 1, 1);
        due("undo", x.undo(), true);
        due("the last", x.guest(1, 4), 0);
        due("19 more", x.count(7), 19);
        pour(x, 1, 1, 0);
        due("20 again", x.count(7), 20);
        due("undo", x.undo(), true);
        due("undo", x.undo(), true);
        due("bottle", x.wine(1, 0), 1);
        due("18 more", x.count(7), 18);
        for (int n = 0; n < 18; n++) {
            due("undo " + n, x.undo(), true);
        }
        due("no more", x.undo(), false);
        due("9 back in the bottle", x.wine(0, 0), 30 - 22 + 9);
    }

    @Case(promise = 10, says = "glasses and water: what was refused is none, nor is an UNDO one")
    static void refusedIsNone() {
        DanceWine x = cellar(T);
        x.pour(0, 5);
        x.water(0);
        due("refused", x.undo(), false);
        pour(x, 0, 1);
        x.pour(0, 1);
        x.water(1);
        due("one", x.count(7), 1);
        due("undo", x.undo(), true);
        due("the glass", x.guest(0, 4), 0);
        due("an undo is not undone", x.undo(), false);
    }

    @Case(promise = 10, says = "glasses and water: what is SEEN or marked is none")
    static void otherActs() {
        DanceWine x = cellar(T);
        x.see(0, 1, 1);
        x.mark(0, false);
        due("nothing", x.undo(), false);
        pour(x, 0, 0);
        x.see(0, -1, 0);
        due("the glass", x.undo(), true);
        due("not seen still", x.count(6), 0);
    }

    @Case(promise = 10, says = "a sixth glass and its water undone")
    static void sixthGlass() {
        DanceWine x = cellar(T);
        pour(x, 0, 0, 0, 0, 0, 0, 1);
        x.water(0);
        pour(x, 0, 0);
        due("six", x.guest(0, 4), 6);
        due("undo", x.undo(), true);
        due("undo", x.undo(), true);
        due("the sixth", x.glass(0, 5), 1);
        due("a seventh", x.pour(0, 0), false);
    }

    @Case(promise = 10, says = "water undone: of each of six GUESTS its own glass")
    static void waterUndoneOfSix() {
        DanceWine x = cellar(CellarCases.full());
        for (int g = 0; g < 6; g++) {
            pour(x, g, g, 5 - g);
        }
        for (int g = 0; g < 6; g++) {
            due("water", x.water(g), true);
        }
        for (int n = 0; n < 6; n++) {
            due("undo", x.undo(), true);
        }
        for (int g = 0; g < 6; g++) {
            due("glass(" + g + ", 0)", x.glass(g, 0), g);
            due("glass(" + g + ", 1)", x.glass(g, 1), 5 - g);
            due("bottle " + g, x.wine(g, 0), 97);
        }
        // the last glasses were of 5 0 4 1 3 2
        int[] back = {0, 5, 1, 4, 2, 3};
        for (int wine : back) {
            due("undo a glass", x.undo(), true);
            due("bottle " + wine, x.wine(wine, 0), 98);
        }
    }

    // ---- promise 24

    @Case(promise = 24, says = "MARKS 0 to 3: each is one of its own")
    static void fourMarks() {
        DanceWine x = cellar(T);
        for (int m = 0; m < 4; m++) {
            due("lay " + m, x.mark(m, false), true);
            pour(x, 0, 0);
        }
        for (int m = 3; m >= 0; m--) {
            due("back " + m, x.mark(m, true), true);
            due("glasses of " + m, x.guest(0, 4), m);
        }
        due("back 2", x.mark(2, true), true);
        due("glasses of 2", x.guest(0, 4), 2);
    }

    @Case(promise = 24, says = "false: none such")
    static void noSuchMark() {
        DanceWine x = cellar(T);
        for (int m = 0; m < 4; m++) {
            x.mark(m, false);
        }
        pour(x, 0, 0);
        String before = state(x);
        int[] none = {-1, 4, -2, 5, MIN, MAX};
        for (int m : none) {
            due("lay " + m, x.mark(m, false), false);
            due("back " + m, x.mark(m, true), false);
        }
        due("nothing changed", state(x), before);
    }

    @Case(promise = 24, says = "false: nothing is on it (back): all stays, what can be undone, too")
    static void nothingOnIt() {
        DanceWine x = cellar(T);
        pour(x, 0, 0);
        x.mark(1, false);
        String before = state(x);
        due("mark 0", x.mark(0, true), false);
        due("mark 2", x.mark(2, true), false);
        due("mark 3", x.mark(3, true), false);
        due("nothing changed", state(x), before);
        due("undo", x.undo(), true);
    }

    @Case(promise = 24, says = "they hold glasses, what is drunk, what is SEEN")
    static void marksHold() {
        DanceWine x = cellar(T);
        pour(x, 0, 0, 1);
        pour(x, 1, 0);
        x.see(0, 3, 4);
        x.mark(0, false);
        due("read", x.read(1), 1);
        x.water(0);
        x.water(0);
        pour(x, 0, 0, 0, 0);
        x.water(1);
        pour(x, 1, 0, 0);
        x.see(0, 0, 0);
        x.see(1, 0, 0);
        due("back", x.mark(0, true), true);
        due("bottle 0", x.wine(0, 0), 28);
        due("bottle 1", x.wine(1, 0), 0);
        due("glasses", x.guest(0, 4), 2);
        due("the second", x.glass(0, 1), 1);
        due("the other's glasses", x.guest(1, 4), 1);
        due("the walk", x.walk(1, 1), 1);
        due("seen", x.count(6), 1);
        due("where", x.read(1), 1);
    }

    @Case(promise = 24, says = "nothing can be undone when one is gone back to")
    static void backUndoesNothing() {
        DanceWine x = cellar(T);
        pour(x, 0, 0);
        x.mark(0, false);
        due("when one is laid, all can still be", x.count(7), 1);
        pour(x, 0, 0);
        due("back", x.mark(0, true), true);
        due("count", x.count(7), 0);
        due("undo", x.undo(), false);
        due("glasses", x.guest(0, 4), 1);
        pour(x, 0, 0);
        due("what is done then can be", x.undo(), true);
        due("but no more", x.undo(), false);
    }

    @Case(promise = 24, says = "A MARK is laid: over one that was laid; gone back to twice")
    static void laidOver() {
        DanceWine x = cellar(T);
        x.mark(0, false);
        pour(x, 0, 0);
        due("laid over", x.mark(0, false), true);
        pour(x, 0, 0);
        due("back", x.mark(0, true), true);
        due("the newer", x.guest(0, 4), 1);
        pour(x, 0, 0, 0);
        x.see(1, 0, 0);
        due("back again", x.mark(0, true), true);
        due("the same", x.guest(0, 4), 1);
        due("not seen", x.count(6), 0);
    }

    @Case(promise = 24, says = "a MARK at which nothing had been drunk")
    static void emptyMark() {
        DanceWine x = cellar(T);
        String before = state(x);
        x.mark(3, false);
        pour(x, 0, 0, 0, 0, 0, 0, 1);
        x.see(0, 0, 0);
        due("back", x.mark(3, true), true);
        due("as at first", state(x), before);
    }

    @Case(promise = 24, says = "it holds no hall: a FAULT leaves the marks, a CELLAR takes them")
    static void marksAndCellars() {
        DanceWine x = cellar(T);
        x.mark(3, false);
        due("fault", Check.told(x, "hall 9"), 4 + 16 * 5);
        due("still there", x.mark(3, true), true);
        due("told", Check.told(x, T), 0);
        due("gone", x.mark(3, true), false);
    }

    @Case(promise = 24, says = "they hold glasses, what is drunk, what is SEEN: of all six WINES and six GUESTS")
    static void marksHoldSix() {
        DanceWine x = cellar(CellarCases.full());
        for (int g = 0; g < 6; g++) {
            pour(x, g, g, 5 - g, 1);
            x.see(g, g, 1);
        }
        due("read", x.read(1), 1);
        due("lay", x.mark(2, false), true);
        for (int g = 0; g < 6; g++) {
            x.water(g);
            x.water(g);
            x.water(g);
            pour(x, g, 2, 5 - g);
            x.see(g, -1, 0);
        }
        due("back", x.mark(2, true), true);
        for (int g = 0; g < 6; g++) {
            due("glasses of " + g, x.guest(g, 4), 3);
            due("glass(" + g + ", 0)", x.glass(g, 0), g);
            due("glass(" + g + ", 1)", x.glass(g, 1), 5 - g);
            due("glass(" + g + ", 2)", x.glass(g, 2), 1);
            due("bottle " + g, x.wine(g, 0), g == 1 ? 91 : 97);
            due("walk of " + g, x.walk(g, 0), 24 + g);
        }
        due("seen", x.count(6), 6);
        due("where", x.read(1), 1);
    }

    @Case(promise = 24, says = "what is drunk: other glasses in the place of those that were")
    static void otherGlasses() {
        DanceWine x = cellar(CellarCases.full());
        pour(x, 5, 0, 1, 2, 3, 4, 5);
        x.mark(0, false);
        for (int n = 0; n < 6; n++) {
            x.water(5);
        }
        pour(x, 5, 5, 4, 3, 2, 1, 0);
        x.mark(1, false);
        for (int n = 0; n < 2; n++) {
            for (int m = 0; m < 2; m++) {
                due("back", x.mark(m, true), true);
                for (int i = 0; i < 6; i++) {
                    due("glass " + i + " at mark " + m, x.glass(5, i), m == 0 ? i : 5 - i);
                }
            }
        }
    }
}
