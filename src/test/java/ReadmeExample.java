public final class ReadmeExample {
    public static void main(String[] args) {
        DanceWine x = new DanceWine();
        tell(x, "hall 4 4 ; carriage 1 1 ; dance jig ahead right ; wine red glasses 3 of jig 2 ; ");
        tell(x, "guest ann plain at 0 0 way 0 age 20 ;");
        int fault = x.cellar();
        if (fault != 0) {
            System.out.println("fault " + fault % 16 + " at sign " + fault / 16);
            return;
        }
        int glasses = x.fewest(0, 1, 1, DanceWine.NONE);
        System.out.println(glasses + " glass to the carriage");
        x.pour(0, 0);
        int cell = x.walk(0, 0);
        System.out.println("ann is at " + cell % 8 + ", " + cell / 8 + ", way " + x.walk(0, 1));
        System.out.println(x.wine(0, 0) + " glasses are left");
        x.undo();
        System.out.println(x.wine(0, 0) + " behind undo");
    }

    /** Eight signs a long, the highest byte first; the zeros that fill up the last ones are left out. */
    private static void tell(DanceWine x, String text) {
        for (int from = 0; from < text.length(); from += 24) {
            x.feed(eight(text, from), eight(text, from + 8), eight(text, from + 16));
        }
    }

    private static long eight(String text, int from) {
        long signs = 0;
        for (int i = from; i < from + 8; i++) {
            signs = signs << 8 | (i < text.length() ? text.charAt(i) : 0);
        }
        return signs;
    }
}
