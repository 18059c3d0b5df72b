import java.util.ArrayList;
import java.util.Arrays;
import java.util.HashMap;
import java.util.HashSet;
import java.util.List;
import java.util.Map;
import java.util.NoSuchElementException;
import java.util.Set;
import java.util.function.IntSupplier;

/** The document as plainly as can be, and slow: what the random runs compare DanceWine with. */
final class PlainModel {
    private static final List<String> STEPS = List.of("ahead", "hop", "left", "right", "rest");
    private static final List<String> KINDS = List.of("plain", "waiter", "lame", "uncle", "old");
    private static final Set<String> RESERVED = new HashSet<>(List.of("hall", "pillar", "carriage", "dance",
            "wine", "glasses", "of", "guest", "at", "way", "age", "stagger", "not", "and", "or"));

    static {
        RESERVED.addAll(STEPS);
        RESERVED.addAll(KINDS);
    }

    private static final class Fault extends RuntimeException {
        private static final long serialVersionUID = 1L;
        final int answer;

        Fault(int kind, Token token) {
            this.answer = kind + 16 * token.place;
        }
    }

    private record Token(String text, int place, boolean none) {
        boolean isNumber() {
            return !none && !text.isEmpty() && Character.isDigit(text.charAt(0));
        }

        boolean isWord() {
            return !none && !text.isEmpty() && Character.isLetter(text.charAt(0));
        }

        boolean isName() {
            return isWord() && !RESERVED.contains(text);
        }

        boolean is(String other) {
            return !none && text.equals(other);
        }
    }

    private record Guest(String kind, int x, int y, int way, int age) {
    }

    private record Wine(int glasses, List<String> steps) {
    }

    private record Act(boolean water, int guest, int wine) {
    }

    private record Place(int x, int y, int way) {
        int cell() {
            return y * 8 + x;
        }
    }

    /** One step of a guest as the stagger law sees it. */
    private record Danced(String step, boolean lost) {
        String taken() {
            return lost ? "rest" : step;
        }
    }

    private static final class Told {
        int wide = 2;
        int deep = 2;
        final Set<Integer> pillars = new HashSet<>();
        Integer carriage = null;
        final List<List<String>> dances = new ArrayList<>();
        final List<Wine> wines = new ArrayList<>();
        final List<Guest> guests = new ArrayList<>();
        IntSupplier law = null;
    }

    private static final class State {
        int[] left = new int[0];
        List<List<Integer>> drunk = new ArrayList<>();
        Map<Integer, Integer> seen = new HashMap<>();

        State copy() {
            State s = new State();
            s.left = left.clone();
            for (List<Integer> d : drunk) {
                s.drunk.add(new ArrayList<>(d));
            }
            s.seen.putAll(seen);
            return s;
        }
    }

    private final StringBuilder tape = new StringBuilder();
    private Told told = new Told();
    private State state = new State();
    private final List<Act> acts = new ArrayList<>();
    private final State[] marks = new State[4];
    private int factGlass;
    private int factStep;
    private int factAge;
    private int factDrunk;

    // ---- the tape and its language

    int feed(long a, long b, long c) {
        for (long part : new long[] {a, b, c}) {
            for (int n = 7; n >= 0; n--) {
                int sign = (int) (part >> 8 * n & 0xff);
                if (tape.length() < 1000 && (sign == 10 || sign >= 32 && sign < 127)) {
                    tape.append((char) sign);
                }
            }
        }
        return tape.length();
    }

    private List<Token> tokens;
    private int next;
    private Told reading;
    private Set<String> names;
    private Map<String, Integer> danceNames;

    private static List<Token> tokensOf(String text) {
        List<Token> all = new ArrayList<>();
        int i = 0;
        while (i < text.length()) {
            char c = text.charAt(i);
            int j = i + 1;
            if (c == ' ' || c == '\n') {
                i++;
                continue;
            }
            boolean none = false;
            if (c >= 'a' && c <= 'z') {
                while (j < text.length() && text.charAt(j) >= 'a' && text.charAt(j) <= 'z') {
                    j++;
                }
                none = j - i > 8;
            } else if (c >= '0' && c <= '9') {
                while (j < text.length() && text.charAt(j) >= '0' && text.charAt(j) <= '9') {
                    j++;
                }
                none = j - i > 4;
            } else {
                none = "()<=+-*;".indexOf(c) < 0;
            }
            all.add(new Token(text.substring(i, j), i, none));
            i = j;
        }
        all.add(new Token("", text.length(), true));
        return all;
    }

    int cellar() {
        tokens = tokensOf(tape.toString());
        tape.setLength(0);
        next = 0;
        reading = new Told();
        names = new HashSet<>();
        danceNames = new HashMap<>();
        try {
            readCellar();
        } catch (Fault f) {
            return f.answer;
        }
        told = reading;
        state = new State();
        state.left = told.wines.stream().mapToInt(Wine::glasses).toArray();
        for (int g = 0; g < told.guests.size(); g++) {
            state.drunk.add(new ArrayList<>());
        }
        acts.clear();
        Arrays.fill(marks, null);
        return 0;
    }

    private Token peek() {
        return tokens.get(next);
    }

    private Token due(String text) {
        if (!peek().is(text)) {
            throw new Fault(1, peek());
        }
        return tokens.get(next++);
    }

    private int numberDue(int low, int high) {
        Token t = peek();
        if (!t.isNumber()) {
            throw new Fault(1, t);
        }
        int v = Integer.parseInt(t.text());
        if (v < low || v > high) {
            throw new Fault(4, t);
        }
        next++;
        return v;
    }

    private String nameDue() {
        Token t = peek();
        if (!t.isName()) {
            throw new Fault(1, t);
        }
        if (!names.add(t.text())) {
            throw new Fault(3, t);
        }
        next++;
        return t.text();
    }

    private int cellDue(boolean notCarriage, boolean notGuest) {
        int x = numberDue(0, reading.wide - 1);
        Token yToken = peek();
        int y = numberDue(0, reading.deep - 1);
        int cell = y * 8 + x;
        boolean taken = reading.pillars.contains(cell);
        taken |= notCarriage && reading.carriage != null && reading.carriage == cell;
        taken |= notGuest && reading.guests.stream().anyMatch(g -> g.y() * 8 + g.x() == cell);
        if (taken) {
            throw new Fault(3, yToken);
        }
        return cell;
    }

    private void readCellar() {
        due("hall");
        reading.wide = numberDue(2, 8);
        reading.deep = numberDue(2, 8);
        due(";");
        while (next < tokens.size() - 1) {
            Token t = peek();
            next++;
            if (t.is("pillar")) {
                reading.pillars.add(cellDue(true, true));
            } else if (t.is("carriage")) {
                if (reading.carriage != null) {
                    throw new Fault(3, t);
                }
                reading.carriage = cellDue(false, false);
            } else if (t.is("dance")) {
                readDance(t);
            } else if (t.is("wine")) {
                readWine(t);
            } else if (t.is("guest")) {
                readGuest(t);
            } else if (t.is("stagger")) {
                if (reading.law != null) {
                    throw new Fault(3, t);
                }
                reading.law = readE(0);
            } else {
                throw new Fault(1, t);
            }
            due(";");
        }
    }

    private void readDance(Token first) {
        if (reading.dances.size() == 6) {
            throw new Fault(5, first);
        }
        String name = nameDue();
        List<String> steps = new ArrayList<>();
        do {
            Token t = peek();
            if (t.none() || !STEPS.contains(t.text())) {
                throw new Fault(1, t);
            }
            if (steps.size() == 8) {
                throw new Fault(5, t);
            }
            steps.add(t.text());
            next++;
        } while (!peek().is(";"));
        danceNames.put(name, reading.dances.size());
        reading.dances.add(steps);
    }

    private void readWine(Token first) {
        if (reading.wines.size() == 6) {
            throw new Fault(5, first);
        }
        nameDue();
        due("glasses");
        int glasses = numberDue(0, 99);
        due("of");
        Set<String> used = new HashSet<>();
        List<String> steps = new ArrayList<>();
        do {
            Token t = peek();
            if (!t.isName()) {
                throw new Fault(1, t);
            }
            if (!danceNames.containsKey(t.text())) {
                throw new Fault(2, t);
            }
            if (!used.add(t.text())) {
                throw new Fault(3, t);
            }
            if (used.size() == 4) {
                throw new Fault(5, t);
            }
            next++;
            int times = numberDue(1, 4);
            for (int n = 0; n < times; n++) {
                steps.addAll(reading.dances.get(danceNames.get(t.text())));
            }
        } while (!peek().is(";"));
        reading.wines.add(new Wine(glasses, steps));
    }

    private void readGuest(Token first) {
        if (reading.guests.size() == 6) {
            throw new Fault(5, first);
        }
        nameDue();
        Token kind = peek();
        if (kind.none() || !KINDS.contains(kind.text())) {
            throw new Fault(1, kind);
        }
        next++;
        due("at");
        int cell = cellDue(false, false);
        due("way");
        int way = numberDue(0, 3);
        due("age");
        int age = numberDue(0, 99);
        reading.guests.add(new Guest(kind.text(), cell % 8, cell / 8, way, age));
    }

    private IntSupplier readE(int within) {
        IntSupplier left = readTest(within);
        while (peek().is("and") || peek().is("or")) {
            boolean and = peek().is("and");
            next++;
            IntSupplier a = left;
            IntSupplier b = readTest(within);
            left = () -> {
                boolean p = a.getAsInt() != 0;
                boolean q = b.getAsInt() != 0;
                return (and ? p && q : p || q) ? 1 : 0;
            };
        }
        return left;
    }

    private IntSupplier readTest(int within) {
        IntSupplier a = readSum(within);
        if (peek().is("<")) {
            next++;
            IntSupplier b = readSum(within);
            return () -> a.getAsInt() < b.getAsInt() ? 1 : 0;
        }
        if (peek().is("=")) {
            next++;
            IntSupplier b = readSum(within);
            return () -> a.getAsInt() == b.getAsInt() ? 1 : 0;
        }
        return a;
    }

    private IntSupplier readSum(int within) {
        IntSupplier left = readProduct(within);
        while (peek().is("+") || peek().is("-")) {
            boolean plus = peek().is("+");
            next++;
            IntSupplier a = left;
            IntSupplier b = readProduct(within);
            left = () -> plus ? a.getAsInt() + b.getAsInt() : a.getAsInt() - b.getAsInt();
        }
        return left;
    }

    private IntSupplier readProduct(int within) {
        IntSupplier left = readPart(within);
        while (peek().is("*")) {
            next++;
            IntSupplier a = left;
            IntSupplier b = readPart(within);
            left = () -> a.getAsInt() * b.getAsInt();
        }
        return left;
    }

    private IntSupplier readPart(int within) {
        Token t = peek();
        boolean fact = t.is("glass") || t.is("step") || t.is("age") || t.is("drunk");
        if (!fact && !t.isNumber() && !t.is("not") && !t.is("(")) {
            throw new Fault(1, t);
        }
        if (within == 5) {
            throw new Fault(5, t);
        }
        next++;
        if (t.is("not")) {
            IntSupplier a = readPart(within + 1);
            return () -> a.getAsInt() == 0 ? 1 : 0;
        }
        if (t.is("(")) {
            IntSupplier a = readE(within + 1);
            due(")");
            return a;
        }
        if (t.isNumber()) {
            int v = Integer.parseInt(t.text());
            return () -> v;
        }
        switch (t.text()) {
            case "glass":
                return () -> factGlass;
            case "step":
                return () -> factStep;
            case "age":
                return () -> factAge;
            default:
                return () -> factDrunk;
        }
    }

    // ---- dancing

    private boolean isGuest(int g) {
        return g >= 0 && g < told.guests.size();
    }

    private boolean isWine(int w) {
        return w >= 0 && w < told.wines.size();
    }

    private boolean isCell(int x, int y) {
        return x >= 0 && x < told.wide && y >= 0 && y < told.deep;
    }

    private List<Danced> stepsOf(int guest, List<Integer> glasses) {
        List<Danced> all = new ArrayList<>();
        Guest g = told.guests.get(guest);
        if (g.kind().equals("waiter")) {
            return all;
        }
        for (int n = 0; n < glasses.size(); n++) {
            List<Danced> one = new ArrayList<>();
            List<String> steps = told.wines.get(glasses.get(n)).steps();
            for (int s = 0; s < steps.size(); s++) {
                factGlass = n;
                factStep = s;
                factAge = g.age();
                factDrunk = glasses.size();
                one.add(new Danced(steps.get(s), told.law != null && told.law.getAsInt() != 0));
            }
            all.addAll(g.kind().equals("old") ? 0 : all.size(), one);
        }
        return all;
    }

    private Place home(int guest) {
        Guest g = told.guests.get(guest);
        return new Place(g.x(), g.y(), g.way());
    }

    private Place take(int guest, Place from, String step, Set<Integer> others) {
        String kind = told.guests.get(guest).kind();
        switch (step) {
            case "left":
            case "right":
                int turn = step.equals("right") ? 1 : -1;
                if (kind.equals("uncle")) {
                    turn = -turn;
                }
                return new Place(from.x(), from.y(), Math.floorMod(from.way() + turn, 4));
            case "ahead":
            case "hop":
                int far = step.equals("hop") && !kind.equals("lame") ? 2 : 1;
                int x = from.x() + far * new int[] {0, 1, 0, -1}[from.way()];
                int y = from.y() + far * new int[] {1, 0, -1, 0}[from.way()];
                boolean open = isCell(x, y) && !told.pillars.contains(y * 8 + x) && !others.contains(y * 8 + x);
                return open ? new Place(x, y, from.way()) : from;
            default:
                return from;
        }
    }

    private Place walkOf(int guest, List<Integer> glasses, Set<Integer> others) {
        Place p = home(guest);
        for (Danced d : stepsOf(guest, glasses)) {
            p = take(guest, p, d.taken(), others);
        }
        return p;
    }

    // ---- the face

    int step(int wine, int i) {
        if (!isWine(wine) || i < 0 || i >= told.wines.get(wine).steps().size()) {
            return -1;
        }
        return STEPS.indexOf(told.wines.get(wine).steps().get(i));
    }

    int wine(int wine, int what) {
        if (!isWine(wine)) {
            return -1;
        }
        return what == 0 ? state.left[wine] : what == 1 ? told.wines.get(wine).steps().size() : -1;
    }

    int guest(int guest, int what) {
        if (!isGuest(guest) || what < 0 || what > 5) {
            return -1;
        }
        Guest g = told.guests.get(guest);
        List<Integer> glasses = state.drunk.get(guest);
        return List.of(KINDS.indexOf(g.kind()), g.y() * 8 + g.x(), g.way(), g.age(), glasses.size(),
                stepsOf(guest, glasses).size()).get(what);
    }

    int glass(int guest, int i) {
        return isGuest(guest) && i >= 0 && i < state.drunk.get(guest).size() ? state.drunk.get(guest).get(i) : -1;
    }

    private void remember(Act act) {
        acts.add(act);
        if (acts.size() > 20) {
            acts.remove(0);
        }
    }

    boolean pour(int guest, int wine) {
        if (!isGuest(guest) || !isWine(wine) || state.left[wine] == 0 || state.drunk.get(guest).size() == 6) {
            return false;
        }
        state.left[wine]--;
        state.drunk.get(guest).add(wine);
        remember(new Act(false, guest, wine));
        return true;
    }

    boolean water(int guest) {
        if (!isGuest(guest) || state.drunk.get(guest).isEmpty()) {
            return false;
        }
        List<Integer> d = state.drunk.get(guest);
        remember(new Act(true, guest, d.remove(d.size() - 1)));
        return true;
    }

    boolean undo() {
        if (acts.isEmpty()) {
            return false;
        }
        Act act = acts.remove(acts.size() - 1);
        List<Integer> d = state.drunk.get(act.guest());
        if (act.water()) {
            d.add(act.wine());
        } else {
            d.remove(d.size() - 1);
            state.left[act.wine()]++;
        }
        return true;
    }

    int walk(int guest, int what) {
        if (!isGuest(guest)) {
            return -1;
        }
        List<Integer> glasses = state.drunk.get(guest);
        Place p = walkOf(guest, glasses, Set.of());
        switch (what) {
            case 0:
                return p.cell();
            case 1:
                return p.way();
            case 2:
                return (int) stepsOf(guest, glasses).stream().filter(Danced::lost).count();
            default:
                return -1;
        }
    }

    int ball(int hiccup, int seed, int what) {
        if (hiccup < 0 || hiccup > 8 || seed < 0 || seed > 9999 || what != -1 && !isGuest(what)) {
            return -2;
        }
        int n = told.guests.size();
        List<List<Danced>> steps = new ArrayList<>();
        Place[] at = new Place[n];
        for (int g = 0; g < n; g++) {
            at[g] = home(g);
            steps.add(stepsOf(g, state.drunk.get(g)));
        }
        long r = seed;
        int beat = 0;
        while (true) {
            boolean any = false;
            for (int g = 0; g < n; g++) {
                if (beat >= steps.get(g).size()) {
                    continue;
                }
                any = true;
                r = (r * 1103515245L + 12345L) % 2147483648L;
                boolean hiccuped = r / 65536 % 8 < hiccup;
                Set<Integer> others = new HashSet<>();
                for (int h = 0; h < n; h++) {
                    if (h != g) {
                        others.add(at[h].cell());
                    }
                }
                at[g] = take(g, at[g], hiccuped ? "rest" : steps.get(g).get(beat).taken(), others);
            }
            if (!any) {
                break;
            }
            beat++;
        }
        return what == -1 ? beat : at[what].cell();
    }

    /** All rows of so many wines, the first first. */
    private List<List<Integer>> rowsOf(int many) {
        List<List<Integer>> rows = new ArrayList<>();
        rows.add(List.of());
        for (int n = 0; n < many; n++) {
            List<List<Integer>> longer = new ArrayList<>();
            for (List<Integer> row : rows) {
                for (int w = 0; w < told.wines.size(); w++) {
                    List<Integer> l = new ArrayList<>(row);
                    l.add(w);
                    longer.add(l);
                }
            }
            rows = longer;
        }
        return rows;
    }

    private boolean areThere(List<Integer> row) {
        for (int w = 0; w < told.wines.size(); w++) {
            int wine = w;
            if (row.stream().filter(v -> v == wine).count() > state.left[w]) {
                return false;
            }
        }
        return true;
    }

    int fewest(int guest, int x, int y, int what) {
        if (!isGuest(guest) || !isCell(x, y) || what < -1) {
            return -1;
        }
        for (int many = 0; many <= 6; many++) {
            for (List<Integer> row : rowsOf(many)) {
                if (areThere(row) && walkOf(guest, row, Set.of()).cell() == y * 8 + x) {
                    return what == -1 ? many : what < many ? row.get(what) : -1;
                }
            }
        }
        return -1;
    }

    private List<Integer> digits(int order) {
        int n = told.guests.size();
        List<Integer> all = new ArrayList<>();
        long rest = order;
        for (int i = 0; i < n; i++) {
            all.add((int) (rest & 7));
            rest /= 8;
        }
        boolean fine = order >= 0 && rest == 0 && new HashSet<>(all).size() == n && all.stream().allMatch(this::isGuest);
        return fine ? all : null;
    }

    private int goneBy(List<Integer> order) {
        int carriage = told.carriage == null ? 0 : told.carriage;
        Map<Integer, Integer> standing = new HashMap<>();
        for (int g = 0; g < told.guests.size(); g++) {
            standing.put(g, home(g).cell());
        }
        int gone = 0;
        for (int g : order) {
            standing.remove(g);
            Place p = walkOf(g, state.drunk.get(g), new HashSet<>(standing.values()));
            if (p.cell() == carriage) {
                gone |= 1 << g;
            } else {
                standing.put(g, p.cell());
            }
        }
        return gone;
    }

    int send(int order) {
        List<Integer> row = digits(order);
        if (row == null) {
            throw new NoSuchElementException();
        }
        return goneBy(row);
    }

    private void orders(List<Integer> begun, List<List<Integer>> all) {
        if (begun.size() == told.guests.size()) {
            all.add(new ArrayList<>(begun));
            return;
        }
        for (int g = 0; g < told.guests.size(); g++) {
            if (!begun.contains(g)) {
                begun.add(g);
                orders(begun, all);
                begun.remove(begun.size() - 1);
            }
        }
    }

    int best(int what) {
        if (what < 0 || what > 1) {
            return -1;
        }
        List<List<Integer>> all = new ArrayList<>();
        orders(new ArrayList<>(), all);
        int most = -1;
        int number = 0;
        for (List<Integer> order : all) {
            int many = Integer.bitCount(goneBy(order));
            if (many > most) {
                most = many;
                number = 0;
                for (int i = order.size() - 1; i >= 0; i--) {
                    number = number * 8 + order.get(i);
                }
            }
        }
        return what == 0 ? most : number;
    }

    private List<List<Integer>> servedRows(int guest, int x, int y, int way) {
        if (!isGuest(guest) || !isCell(x, y) || way < 0 || way > 3) {
            return null;
        }
        List<List<Integer>> all = new ArrayList<>();
        for (int many = 0; many <= 3; many++) {
            for (List<Integer> row : rowsOf(many)) {
                if (walkOf(guest, row, Set.of()).equals(new Place(x, y, way))) {
                    all.add(row);
                }
            }
        }
        return all;
    }

    int served(int guest, int x, int y, int way) {
        List<List<Integer>> all = servedRows(guest, x, y, way);
        return all == null ? -1 : all.size();
    }

    int row(int guest, int x, int y, int way, int i, int at) {
        List<List<Integer>> all = servedRows(guest, x, y, way);
        if (all == null || i < 0 || i >= all.size() || at < -1 || at >= all.get(i).size()) {
            return -1;
        }
        return at == -1 ? all.get(i).size() : all.get(i).get(at);
    }

    int couples(int wine) {
        if (!isWine(wine)) {
            return -1;
        }
        int many = 0;
        for (int g = 0; g < told.guests.size(); g++) {
            for (int h = 0; h < g; h++) {
                Place p = walkOf(g, List.of(wine), Set.of());
                Place q = walkOf(h, List.of(wine), Set.of());
                if (Math.abs(p.x() - q.x()) + Math.abs(p.y() - q.y()) <= 1) {
                    many++;
                }
            }
        }
        return many;
    }

    boolean quarrel(int one, int other) {
        if (!isWine(one) || !isWine(other)) {
            return false;
        }
        List<String> a = told.wines.get(one).steps();
        List<String> b = told.wines.get(other).steps();
        double both = Math.min(a.size(), b.size());
        int against = 0;
        for (int i = 0; i < both; i++) {
            Set<String> pair = new HashSet<>(Arrays.asList(a.get(i), b.get(i)));
            if (pair.contains("left") && pair.contains("right")) {
                against++;
            }
        }
        return against > both / 2;
    }

    int found(int dance) {
        if (dance < 0 || dance >= told.dances.size()) {
            return -1;
        }
        List<String> due = told.dances.get(dance);
        int bits = 0;
        for (int g = 0; g < told.guests.size(); g++) {
            List<String> taken = stepsOf(g, state.drunk.get(g)).stream().map(Danced::taken).toList();
            if (taken.size() >= due.size() && taken.subList(0, due.size()).equals(due)) {
                bits |= 1 << g;
            }
        }
        return bits;
    }

    boolean see(int guest, int x, int y) {
        if (!isGuest(guest)) {
            return false;
        }
        if (x == -1) {
            state.seen.remove(guest);
            return true;
        }
        if (!isCell(x, y)) {
            return false;
        }
        state.seen.put(guest, y * 8 + x);
        return true;
    }

    private List<Integer> readRows(int steps) {
        if (steps < 1 || steps > 5 || state.seen.isEmpty()) {
            return null;
        }
        List<Integer> all = new ArrayList<>();
        int end = (int) Math.pow(5, steps);
        for (int number = 0; number < end; number++) {
            String text = Integer.toString(end + number, 5).substring(1);
            boolean fits = true;
            for (Map.Entry<Integer, Integer> e : state.seen.entrySet()) {
                int g = e.getKey();
                Place p = home(g);
                if (!told.guests.get(g).kind().equals("waiter")) {
                    for (char c : text.toCharArray()) {
                        p = take(g, p, STEPS.get(c - '0'), Set.of());
                    }
                }
                fits &= p.cell() == e.getValue();
            }
            if (fits) {
                all.add(number);
            }
        }
        return all;
    }

    int read(int steps) {
        List<Integer> all = readRows(steps);
        return all == null ? -1 : all.size();
    }

    int dance(int steps, int i) {
        List<Integer> all = readRows(steps);
        return all == null || i < 0 || i >= all.size() ? -1 : all.get(i);
    }

    boolean mark(int mark, boolean back) {
        if (mark < 0 || mark > 3 || back && marks[mark] == null) {
            return false;
        }
        if (back) {
            state = marks[mark].copy();
            acts.clear();
        } else {
            marks[mark] = state.copy();
        }
        return true;
    }

    int count(int what) {
        switch (what) {
            case 0:
                return told.wide;
            case 1:
                return told.deep;
            case 2:
                return told.dances.size();
            case 3:
                return told.wines.size();
            case 4:
                return told.guests.size();
            case 5:
                return Arrays.stream(state.left).sum();
            case 6:
                return state.seen.size();
            case 7:
                return acts.size();
            case 8:
                return told.carriage == null ? 0 : told.carriage;
            case 9:
                return tape.length();
            default:
                return -1;
        }
    }
}
