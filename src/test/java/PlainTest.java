import java.util.ArrayList;
import java.util.List;
import java.util.NoSuchElementException;
import java.util.Random;

/** Random runs of calls: each answer of DanceWine must be that of the plain model. */
public final class PlainTest {
    private static final String[] STEPS = {"ahead", "hop", "left", "right", "rest"};
    private static final String[] KINDS = {"plain", "waiter", "lame", "uncle", "old"};
    private static final String[] BITS = {"hall", "pillar", "carriage", "dance", "wine", "glasses", "of", "guest",
        "at", "way", "age", "stagger", "ahead", "hop", "rest", "plain", "old", "not", "and", "or", "glass", "step",
        "drunk", "da", "db", "wa", "ga", "zz", "abcdefgh", "abcdefghi", "0", "1", "3", "8", "99", "100", "9999",
        "10000", "(", ")", "<", "=", "+", "-", "*", ";", "&", "A", ".", "", "\n", "dance x", "guest x", "wine x"};

    private final Random random;
    private final Check check;
    private final DanceWine x = new DanceWine();
    private final PlainModel y = new PlainModel();
    private final StringBuilder log = new StringBuilder();
    // How many calls the object has had: behind its 512th nothing is promised.
    private int calls = 0;

    private PlainTest(Check check, long seed) {
        this.check = check;
        this.random = new Random(seed);
    }

    public static void main(String[] args) {
        int runs = args.length > 0 ? Integer.parseInt(args[0]) : 400;
        long first = args.length > 1 ? Long.parseLong(args[1]) : 1;
        Check check = new Check("PlainTest");
        for (int n = 0; n < runs; n++) {
            new PlainTest(check, first + n).run(first + n);
        }
        check.end();
    }

    private int below(int n) {
        return random.nextInt(n);
    }

    private String one(String[] of) {
        return of[below(of.length)];
    }

    // ---- texts

    private List<String> cellarText() {
        List<String> t = new ArrayList<>();
        int wide = 2 + below(random.nextBoolean() ? 7 : 3);
        int deep = 2 + below(random.nextBoolean() ? 7 : 3);
        add(t, "hall", wide, deep, ";");
        boolean[] pillar = new boolean[64];
        boolean[] guestAt = new boolean[64];
        int carriage = -1;
        int dances = 0;
        int wines = 0;
        int guests = 0;
        boolean law = below(3) == 0;
        String[] habit = {"ahead", one(STEPS), below(2) == 0 ? "left" : "right"};
        int wineLimit = 1 + below(random.nextInt(4) == 0 ? 6 : 3);
        int room = below(15) == 0 ? 1200 : 850;
        for (int line = 10 + below(40); line > 0 && String.join(" ", t).length() < room; line--) {
            int px = below(wide);
            int py = below(deep);
            int cell = py * 8 + px;
            switch (below(9)) {
                case 0:
                    if (below(2) == 0 && !pillar[cell] && !guestAt[cell] && cell != carriage) {
                        pillar[cell] = true;
                        add(t, "pillar", px, py, ";");
                    }
                    break;
                case 1:
                    if (!pillar[cell] && carriage < 0 && below(2) == 0) {
                        carriage = cell;
                        add(t, "carriage", px, py, ";");
                    }
                    break;
                case 2:
                case 3:
                    if (dances < 6) {
                        add(t, "dance", "d" + (char) ('a' + dances++));
                        for (int n = 1 + below(below(3) == 0 ? 8 : 3); n > 0; n--) {
                            t.add(below(3) == 0 ? one(habit) : one(STEPS));
                        }
                        t.add(";");
                    }
                    break;
                case 4:
                case 5:
                    if (dances > 0 && wines < wineLimit) {
                        add(t, "wine", "w" + (char) ('a' + wines++), "glasses", below(below(2) == 0 ? 100 : 6), "of");
                        int from = below(dances);
                        for (int n = 0; n <= below(3) && n < dances; n++) {
                            add(t, "d" + (char) ('a' + (from + n) % dances), 1 + below(below(3) == 0 ? 4 : 2));
                        }
                        t.add(";");
                    }
                    break;
                case 6:
                case 7:
                    if (guests < 6 && !pillar[cell]) {
                        guestAt[cell] = true;
                        add(t, "guest", "g" + (char) ('a' + guests++), one(KINDS), "at", px, py, "way", below(4),
                                "age", below(100), ";");
                    }
                    break;
                default:
                    if (!law) {
                        law = true;
                        t.add("stagger");
                        addE(t, 0);
                        t.add(";");
                    }
                    break;
            }
        }
        return t;
    }

    private static void add(List<String> t, Object... parts) {
        for (Object part : parts) {
            t.add(part.toString());
        }
    }

    private void addE(List<String> t, int depth) {
        for (int n = 0; n == 0 || below(4) == 0; n++) {
            if (n > 0) {
                t.add(below(2) == 0 ? "and" : "or");
            }
            addSum(t, depth);
            if (below(2) == 0) {
                t.add(below(2) == 0 ? "<" : "=");
                addSum(t, depth);
            }
        }
    }

    private void addSum(List<String> t, int depth) {
        addPart(t, depth);
        for (int n = 0; n < 3 && below(3) == 0; n++) {
            t.add(one(new String[] {"+", "-", "*", "*"}));
            addPart(t, depth);
        }
    }

    private void addPart(List<String> t, int depth) {
        int pick = below(8);
        if (depth < 4 + below(20) / 19 * 2 && pick == 0) {
            t.add("not");
            addPart(t, depth + 1);
        } else if (depth < 4 + below(20) / 19 * 2 && pick <= 2) {
            t.add("(");
            addE(t, depth + 1);
            t.add(")");
        } else if (pick <= 4) {
            t.add(Integer.toString(below(below(3) == 0 ? 10000 : 6)));
        } else {
            t.add(one(new String[] {"glass", "step", "age", "drunk"}));
        }
    }

    private void spoil(List<String> t) {
        for (int n = 1 + below(2); n > 0 && !t.isEmpty(); n--) {
            int at = below(t.size());
            switch (below(6)) {
                case 0:
                    t.remove(at);
                    break;
                case 1:
                    t.set(at, one(BITS));
                    break;
                case 4:
                case 5:
                    changeAlike(t, at);
                    break;
                case 2:
                    t.add(at, one(BITS));
                    break;
                default:
                    t.add(at, t.get(below(t.size())));
                    break;
            }
        }
    }

    /** Puts a name for a name, or a number for a number: what stays in its place, but may be wrong there. */
    private void changeAlike(List<String> t, int from) {
        for (int n = 0; n < t.size(); n++) {
            int at = (from + n) % t.size();
            if (t.get(at).matches("[dwg][a-f]")) {
                t.set(at, one(new String[] {"d", "w", "g"}) + (char) ('a' + below(6)));
                return;
            }
            if (t.get(at).matches("[0-9]+")) {
                t.set(at, Integer.toString(below(below(2) == 0 ? 9 : 120)));
                return;
            }
        }
    }

    private String joined(List<String> t) {
        StringBuilder b = new StringBuilder();
        for (String s : t) {
            if (b.length() > 0) {
                char last = b.charAt(b.length() - 1);
                boolean tight = s.isEmpty() || !Character.isLetterOrDigit(last) || !Character.isLetterOrDigit(s.charAt(0))
                        || Character.isDigit(last) && Character.isLetter(s.charAt(0));
                if (!tight || below(3) == 0) {
                    b.append(below(12) == 0 ? "\n" : " ");
                }
            }
            b.append(s);
        }
        return b.toString();
    }

    // ---- calls

    private void due(String call, long got, long want) {
        calls++;
        if (got != want) {
            System.out.println(log);
            log.setLength(0);
        }
        check.due(call, got, want);
    }

    private void due(String call, boolean got, boolean want) {
        due(call, got ? 1 : 0, want ? 1 : 0);
    }

    private void tell(boolean spoilt) {
        List<String> t = cellarText();
        if (spoilt) {
            spoil(t);
        }
        String text = joined(t);
        log.append(text).append('\n');
        for (int from = 0; from < text.length(); from += 24) {
            long[] p = Check.signs(text, from);
            due("feed", x.feed(p[0], p[1], p[2]), y.feed(p[0], p[1], p[2]));
        }
        due("cellar", x.cellar(), y.cellar());
    }

    private void run(long seed) {
        log.append("run ").append(seed).append('\n');
        for (int n = below(3); n > 0; n--) {
            tell(true);
        }
        tell(false);
        for (int n = 0; n < 150 && calls < 400; n++) {
            if (below(120) == 0 && calls < 300) {
                tell(below(2) == 0);
            }
            call();
        }
        for (int what = -1; what <= 10; what++) {
            due("count(" + what + ")", x.count(what), y.count(what));
        }
        while (calls < 480) {
            askExtremes();
        }
    }

    private int any() {
        int[] far = {Integer.MIN_VALUE, Integer.MAX_VALUE, -2, 6, 7, 8, 64, 1 << 16, -(1 << 29), 1 << 29, 1 << 28};
        return below(3) == 0 ? far[below(far.length)] : below(3) - 1;
    }

    /** Each call with some arguments that lie far outside. */
    private void askExtremes() {
        int a = any();
        int b = any();
        int c = any();
        int d = any();
        int e = any();
        int f = any();
        String of = "(" + a + ", " + b + ", " + c + ", " + d + ", " + e + ", " + f + ")";
        due("step" + of, x.step(a, b), y.step(a, b));
        due("wine" + of, x.wine(a, b), y.wine(a, b));
        due("guest" + of, x.guest(a, b), y.guest(a, b));
        due("glass" + of, x.glass(a, b), y.glass(a, b));
        due("pour" + of, x.pour(a, b), y.pour(a, b));
        due("water" + of, x.water(a), y.water(a));
        due("walk" + of, x.walk(a, b), y.walk(a, b));
        due("ball" + of, x.ball(a, b, c), y.ball(a, b, c));
        due("served" + of, x.served(a, b, c, d), y.served(a, b, c, d));
        due("row" + of, x.row(a, b, c, d, e, f), y.row(a, b, c, d, e, f));
        due("couples" + of, x.couples(a), y.couples(a));
        due("quarrel" + of, x.quarrel(a, b), y.quarrel(a, b));
        due("found" + of, x.found(a), y.found(a));
        due("see" + of, x.see(a, b, c), y.see(a, b, c));
        due("read" + of, x.read(a), y.read(a));
        due("dance" + of, x.dance(a, b), y.dance(a, b));
        due("mark" + of, x.mark(a, b > 0), y.mark(a, b > 0));
        due("count" + of, x.count(a), y.count(a));
        due("best" + of, x.best(a), y.best(a));
        if (y.count(3) <= 2) {
            due("fewest" + of, x.fewest(a, b, c, d), y.fewest(a, b, c, d));
        }
        askSend(a);
    }

    private void call() {
        int g = below(8) == 0 ? below(8) - 1 : below(Math.max(1, y.count(4)));
        int w = below(4) == 0 ? below(8) - 1 : below(Math.max(1, y.count(3)));
        int cx = below(Math.max(2, y.count(0) + below(8) / 7));
        int cy = below(Math.max(2, y.count(1) + below(8) / 7));
        int i = below(8) - 1;
        int pick = below(40);
        if (pick < 10) {
            log.append("pour ").append(g).append(' ').append(w).append('\n');
            due("pour(" + g + ", " + w + ")", x.pour(g, w), y.pour(g, w));
        } else if (pick < 12) {
            log.append("water ").append(g).append('\n');
            due("water(" + g + ")", x.water(g), y.water(g));
        } else if (pick < 14) {
            log.append("undo\n");
            due("undo()", x.undo(), y.undo());
        } else if (pick < 16) {
            boolean back = random.nextBoolean();
            int m = below(6) - 1;
            log.append("mark ").append(m).append(' ').append(back).append('\n');
            due("mark(" + m + ", " + back + ")", x.mark(m, back), y.mark(m, back));
        } else if (pick < 18) {
            seeNear(g, below(6) == 0 ? below(4) - 2 : cx, cy);
        } else if (pick < 28) {
            askFew(pick, g, w, i);
        } else {
            askSearch(pick, g, cx, cy, i);
        }
    }

    private void seeNear(int g, int cx, int cy) {
        int home = y.guest(g, 1);
        boolean near = home >= 0 && cx >= 0 && below(4) > 0;
        int sx = near ? home % 8 + below(3) - 1 : cx;
        int sy = near ? home / 8 + below(3) - 1 : cy;
        log.append("see ").append(g).append(' ').append(sx).append(' ').append(sy).append('\n');
        due("see(" + g + ", " + sx + ", " + sy + ")", x.see(g, sx, sy), y.see(g, sx, sy));
    }

    private void askFew(int pick, int g, int w, int i) {
        switch (pick) {
            case 18:
                due("step(" + w + ", " + i + ")", x.step(w, i), y.step(w, i));
                int far = below(100);
                due("step(" + w + ", " + far + ")", x.step(w, far), y.step(w, far));
                break;
            case 19:
                due("wine(" + w + ", " + i + ")", x.wine(w, i), y.wine(w, i));
                break;
            case 20:
                due("guest(" + g + ", " + i + ")", x.guest(g, i), y.guest(g, i));
                break;
            case 21:
                due("glass(" + g + ", " + i + ")", x.glass(g, i), y.glass(g, i));
                break;
            case 22:
            case 23:
                int what = below(5) - 1;
                due("walk(" + g + ", " + what + ")", x.walk(g, what), y.walk(g, what));
                break;
            case 24:
                due("couples(" + w + ")", x.couples(w), y.couples(w));
                break;
            case 25:
                int other = below(7) - 1;
                due("quarrel(" + w + ", " + other + ")", x.quarrel(w, other), y.quarrel(w, other));
                break;
            case 26:
                due("found(" + i + ")", x.found(i), y.found(i));
                break;
            default:
                int c = below(13) - 2;
                due("count(" + c + ")", x.count(c), y.count(c));
                break;
        }
    }

    private void askSearch(int pick, int g, int cx, int cy, int i) {
        switch (pick) {
            case 28:
            case 29:
                int h = below(11) - 1;
                int seed = below(10) == 0 ? (below(2) == 0 ? -1 : 10000) : below(10000);
                for (int what = -2; what <= 6; what++) {
                    due("ball(" + h + ", " + seed + ", " + what + ")", x.ball(h, seed, what), y.ball(h, seed, what));
                }
                break;
            case 30:
                if (y.count(3) <= 3 || below(60) == 0) {
                    int home = Math.max(0, y.guest(g, 1));
                    if (below(3) > 0) {
                        cx = Math.max(0, home % 8 + below(5) - 2);
                        cy = Math.max(0, home / 8 + below(5) - 2);
                    }
                    int many = x.fewest(g, cx, cy, -1);
                    due("fewest(" + g + ", " + cx + ", " + cy + ", -1)", many, y.fewest(g, cx, cy, -1));
                    int at = below(8) - 1;
                    due("fewest(" + g + ", " + cx + ", " + cy + ", " + at + ")", x.fewest(g, cx, cy, at),
                            y.fewest(g, cx, cy, at));
                }
                break;
            case 31:
            case 32:
                askSend(randomOrder());
                break;
            case 33:
                int what = below(4) - 1;
                due("best(" + what + ")", x.best(what), y.best(what));
                if (below(2) == 0) {
                    askSend(y.best(1));
                }
                break;
            case 34:
            case 35:
                askServed(g, cx, cy, i);
                break;
            default:
                int steps = 1 + below(below(3) == 0 ? 5 : 3) - below(15) / 14;
                due("read(" + steps + ")", x.read(steps), y.read(steps));
                int at = below(below(2) == 0 ? 5 : 100) - 1;
                due("dance(" + steps + ", " + at + ")", x.dance(steps, at), y.dance(steps, at));
                break;
        }
    }

    private void askServed(int g, int cx, int cy, int i) {
        boolean end = below(2) == 0 && y.walk(g, 0) >= 0;
        int sx = end ? y.walk(g, 0) % 8 : cx;
        int sy = end ? y.walk(g, 0) / 8 : cy;
        int way = end ? y.walk(g, 1) : below(6) - 1;
        String of = "(" + g + ", " + sx + ", " + sy + ", " + way;
        due("served" + of + ")", x.served(g, sx, sy, way), y.served(g, sx, sy, way));
        int nth = below(3) == 0 ? below(40) : i;
        for (int at = -2; at <= 3; at++) {
            due("row" + of + ", " + nth + ", " + at + ")", x.row(g, sx, sy, way, nth, at),
                    y.row(g, sx, sy, way, nth, at));
        }
    }

    private int randomOrder() {
        List<Integer> left = new ArrayList<>();
        for (int g = 0; g < y.count(4); g++) {
            left.add(g);
        }
        int order = 0;
        for (int n = 0; !left.isEmpty(); n += 3) {
            order |= left.remove(below(left.size())) << n;
        }
        return below(8) == 0 ? order + (below(3) - 1) * (1 << below(31)) : order;
    }

    private void askSend(int order) {
        int got;
        int want;
        try {
            got = x.send(order);
        } catch (NoSuchElementException e) {
            got = -99;
        }
        try {
            want = y.send(order);
        } catch (NoSuchElementException e) {
            want = -99;
        }
        due("send(" + order + ")", got, want);
    }
}
