import java.util.Arrays;
import java.util.NoSuchElementException;

/** Wines that make whoever drinks them dance: a cellar told in a language, and what can be asked of it. */
public final class DanceWine {
    public static final int NONE = -1;

    private static final int TAPE_SIGNS = 1000;
    private static final int MOST = 6;
    private static final int DANCE_STEPS = 8;
    private static final int WINE_PARTS = 3;
    private static final int WINE_STEPS = 96;
    private static final int ROUTINE_STEPS = MOST * WINE_STEPS;
    private static final int SERVED_GLASSES = 3;
    private static final int READ_STEPS = 5;
    private static final int UNDOABLE = 20;
    private static final int MARKS = 4;
    private static final int CELLS = 64;
    private static final int POSES = CELLS * 4;

    private static final int AHEAD = 0;
    private static final int HOP = 1;
    private static final int LEFT = 2;
    private static final int RIGHT = 3;
    private static final int REST = 4;

    private static final int WAITER = 1;
    private static final int LAME = 2;
    private static final int UNCLE = 3;
    private static final int OLD = 4;

    private static final int NO_ANSWER = -2;

    private final char[] tape = new char[TAPE_SIGNS];
    private int signs = 0;
    private Cellar now = new Cellar();
    // A tape is read into the spare cellar, so that a fault leaves the present one whole.
    private Cellar spare = new Cellar();
    private final Reader reader = new Reader();
    private final Evening evening = new Evening();
    private final Past past = new Past();
    private final Evening[] marks = new Evening[MARKS];
    private final boolean[] laid = new boolean[MARKS];
    private final Routine[] routines = new Routine[MOST];
    private final boolean[] stale = new boolean[MOST];
    private final Routine trial = new Routine();
    private final int[] oneGlass = new int[1];
    private final int[] cells = new int[MOST];
    private final Rows rows = new Rows();
    private final Floor floor = new Floor();
    private final Sending sending = new Sending();
    private final Reading reading = new Reading();

    public DanceWine() {
        for (int m = 0; m < MARKS; m++) {
            marks[m] = new Evening();
        }
        for (int g = 0; g < MOST; g++) {
            routines[g] = new Routine();
        }
    }

    public int feed(long a, long b, long c) {
        takeSigns(a);
        takeSigns(b);
        takeSigns(c);
        return signs;
    }

    public int cellar() {
        int fault = reader.parse(tape, signs, spare);
        signs = 0;
        if (fault != 0) {
            return fault;
        }
        Cellar told = spare;
        spare = now;
        now = told;
        evening.begin(now);
        past.clear();
        for (int m = 0; m < MARKS; m++) {
            laid[m] = false;
        }
        allChanged();
        return 0;
    }

    public int step(int wine, int i) {
        if (!now.isWine(wine) || i < 0 || i >= now.wineLength[wine]) {
            return NONE;
        }
        return now.wineSteps[wine * WINE_STEPS + i];
    }

    public int wine(int wine, int what) {
        if (!now.isWine(wine)) {
            return NONE;
        }
        switch (what) {
            case 0:
                return evening.left[wine];
            case 1:
                return now.wineLength[wine];
            default:
                return NONE;
        }
    }

    public int guest(int guest, int what) {
        if (!now.isGuest(guest)) {
            return NONE;
        }
        switch (what) {
            case 0:
                return now.kind[guest];
            case 1:
                return now.home[guest] >> 2;
            case 2:
                return now.home[guest] & 3;
            case 3:
                return now.age[guest];
            case 4:
                return evening.had[guest];
            case 5:
                return routineOf(guest).length;
            default:
                return NONE;
        }
    }

    public int glass(int guest, int i) {
        if (!now.isGuest(guest) || i < 0 || i >= evening.had[guest]) {
            return NONE;
        }
        return evening.glasses[guest * MOST + i];
    }

    public boolean pour(int guest, int wine) {
        if (!now.isGuest(guest) || !now.isWine(wine) || evening.left[wine] <= 0 || !evening.give(guest, wine)) {
            return false;
        }
        evening.left[wine]--;
        past.add(guest, wine, false);
        changed(guest);
        return true;
    }

    public boolean water(int guest) {
        if (!now.isGuest(guest)) {
            return false;
        }
        int wine = evening.forget(guest);
        if (wine == NONE) {
            return false;
        }
        past.add(guest, wine, true);
        changed(guest);
        return true;
    }

    public boolean undo() {
        if (past.many == 0) {
            return false;
        }
        int guest = past.lastGuest();
        if (past.lastWasWater()) {
            evening.give(guest, past.lastWine());
        } else {
            evening.left[past.lastWine()]++;
            evening.forget(guest);
        }
        past.dropLast();
        changed(guest);
        return true;
    }

    public int walk(int guest, int what) {
        if (!now.isGuest(guest)) {
            return NONE;
        }
        Routine routine = routineOf(guest);
        switch (what) {
            case 0:
                return routine.alone >> 2;
            case 1:
                return routine.alone & 3;
            case 2:
                return routine.lost;
            default:
                return NONE;
        }
    }

    public int ball(int hiccup, int seed, int what) {
        if (hiccup < 0 || hiccup > 8 || seed < 0 || seed > 9999) {
            return NO_ANSWER;
        }
        if (what != NONE && !now.isGuest(what)) {
            return NO_ANSWER;
        }
        readyRoutines();
        floor.hold(now, routines, hiccup, seed);
        return what == NONE ? floor.beats : floor.pose[what] >> 2;
    }

    public int fewest(int guest, int x, int y, int what) {
        if (!now.isGuest(guest) || !now.isCell(x, y) || what < NONE) {
            return NONE;
        }
        int many = rows.shortest(now, guest, y * 8 + x, evening.left);
        if (what == NONE) {
            return many;
        }
        return what < many ? rows.row[what] : NONE;
    }

    public int send(int order) throws NoSuchElementException {
        if (!Sending.isOrder(order, now.guests)) {
            throw new NoSuchElementException("no order of all guests");
        }
        readyRoutines();
        return sending.goneBy(now, routines, order);
    }

    public int best(int what) {
        if (what != 0 && what != 1) {
            return NONE;
        }
        readyRoutines();
        sending.seekBest(now, routines);
        return what == 0 ? sending.bestGone : sending.bestOrder;
    }

    public int served(int guest, int x, int y, int way) {
        if (!isPose(guest, x, y, way)) {
            return NONE;
        }
        rows.seek(now, guest, (y * 8 + x) * 4 + way, NONE);
        return rows.hits;
    }

    public int row(int guest, int x, int y, int way, int i, int at) {
        if (!isPose(guest, x, y, way) || i < 0 || at < NONE) {
            return NONE;
        }
        if (!rows.seek(now, guest, (y * 8 + x) * 4 + way, i)) {
            return NONE;
        }
        if (at == NONE) {
            return rows.many;
        }
        return at < rows.many ? rows.row[at] : NONE;
    }

    public int couples(int wine) {
        if (!now.isWine(wine)) {
            return NONE;
        }
        oneGlass[0] = wine;
        for (int g = 0; g < now.guests; g++) {
            trial.make(now, g, oneGlass, 0, 1);
            cells[g] = trial.alone >> 2;
        }
        int pairs = 0;
        for (int g = 0; g < now.guests; g++) {
            for (int h = g + 1; h < now.guests; h++) {
                if (distance(cells[g], cells[h]) <= 1) {
                    pairs++;
                }
            }
        }
        return pairs;
    }

    public boolean quarrel(int one, int other) {
        if (!now.isWine(one) || !now.isWine(other)) {
            return false;
        }
        int both = Math.min(now.wineLength[one], now.wineLength[other]);
        int opposed = 0;
        for (int i = 0; i < both; i++) {
            int a = now.wineSteps[one * WINE_STEPS + i];
            int b = now.wineSteps[other * WINE_STEPS + i];
            if (a == LEFT && b == RIGHT || a == RIGHT && b == LEFT) {
                opposed++;
            }
        }
        return opposed * 2 > both;
    }

    public int found(int dance) {
        if (!now.isDance(dance)) {
            return NONE;
        }
        int bits = 0;
        for (int g = 0; g < now.guests; g++) {
            if (routineOf(g).beginsWith(now, dance)) {
                bits |= 1 << g;
            }
        }
        return bits;
    }

    public boolean see(int guest, int x, int y) {
        if (!now.isGuest(guest)) {
            return false;
        }
        if (x == NONE) {
            evening.seen[guest] = NONE;
            return true;
        }
        if (!now.isCell(x, y)) {
            return false;
        }
        evening.seen[guest] = y * 8 + x;
        return true;
    }

    public int read(int steps) {
        if (steps < 1 || steps > READ_STEPS || evening.seenGuests() == 0) {
            return NONE;
        }
        reading.seek(now, evening.seen, steps, NONE);
        return reading.hits;
    }

    public int dance(int steps, int i) {
        if (steps < 1 || steps > READ_STEPS || i < 0 || evening.seenGuests() == 0) {
            return NONE;
        }
        reading.seek(now, evening.seen, steps, i);
        return reading.wantedRow;
    }

    public boolean mark(int mark, boolean back) {
        if (mark < 0 || mark >= MARKS) {
            return false;
        }
        if (!back) {
            marks[mark].copyOf(evening);
            laid[mark] = true;
            return true;
        }
        if (!laid[mark]) {
            return false;
        }
        evening.copyOf(marks[mark]);
        past.clear();
        allChanged();
        return true;
    }

    public int count(int what) {
        switch (what) {
            case 0:
                return now.wide;
            case 1:
                return now.deep;
            case 2:
                return now.dances;
            case 3:
                return now.wines;
            case 4:
                return now.guests;
            case 5:
                return evening.glassesLeft();
            case 6:
                return evening.seenGuests();
            case 7:
                return past.many;
            case 8:
                return now.carriage;
            case 9:
                return signs;
            default:
                return NONE;
        }
    }

    private void takeSigns(long eight) {
        for (int shift = 56; shift >= 0; shift -= 8) {
            int sign = (int) (eight >>> shift) & 255;
            boolean known = sign == 10 || sign >= 32 && sign <= 126;
            if (known && signs < TAPE_SIGNS) {
                tape[signs] = (char) sign;
                signs++;
            }
        }
    }

    private boolean isPose(int guest, int x, int y, int way) {
        return now.isGuest(guest) && now.isCell(x, y) && way >= 0 && way <= 3;
    }

    private static int distance(int one, int other) {
        return Math.abs((one & 7) - (other & 7)) + Math.abs((one >> 3) - (other >> 3));
    }

    private void changed(int guest) {
        stale[guest] = true;
        sending.known = false;
        rows.known = false;
    }

    private void allChanged() {
        for (int g = 0; g < MOST; g++) {
            changed(g);
        }
    }

    private Routine routineOf(int guest) {
        Routine routine = routines[guest];
        if (stale[guest]) {
            routine.make(now, guest, evening.glasses, guest * MOST, evening.had[guest]);
            stale[guest] = false;
        }
        return routine;
    }

    private void readyRoutines() {
        for (int g = 0; g < now.guests; g++) {
            routineOf(g);
        }
    }

    /** The law of stagger, as read: operands first, then what joins them. */
    private static final class Law {
        private static final int NESTED = 5;
        private static final int COMPARES = 2;
        // Five levels of at most four waiting signs each, and what they wait for, stay far below this.
        private static final int DEEPEST = 64;

        // A number stands for itself; a fact or what joins is its token's sort under ~, so below 0.
        private final int[] code = new int[TAPE_SIGNS];
        private int length = 0;
        // While it is read: what waits for its right side. While it is asked: values.
        private final int[] stack = new int[DEEPEST];
        private int waits = 0;
        private int depth = 0;
        // Behind the token that was read last, or at the one that is wrong.
        int at = 0;

        void clear() {
            length = 0;
        }

        /** Reads a clear law up to behind its ; : 0, or the kind of the fault at the token where it stops. */
        int build(Tokens tokens, int start) {
            waits = 0;
            depth = 0;
            at = start;
            boolean partDue = true;
            for (int n = 0; n <= TAPE_SIGNS && at < tokens.many; n++) {
                int sort = tokens.sort[at];
                int fault = partDue ? faultOfPart(sort) : faultBehindPart(sort);
                if (fault != 0) {
                    return fault;
                }
                if (partDue) {
                    partDue = !takePart(sort, (int) tokens.value[at]);
                } else {
                    takeBehindPart(sort);
                    partDue = sort != ')';
                }
                at++;
                if (sort == ';') {
                    return 0;
                }
            }
            return Reader.CANT_STAND;
        }

        private int faultOfPart(int sort) {
            boolean begins = sort == Tokens.NUMBER || sort == Tokens.NOT || sort == '(' || Tokens.isFact(sort);
            if (!begins) {
                return Reader.CANT_STAND;
            }
            return depth >= NESTED ? Reader.TOO_MANY : 0;
        }

        /** Takes a part's first token; true: that is the whole part. */
        private boolean takePart(int sort, int number) {
            if (sort == Tokens.NOT || sort == '(') {
                depth++;
                push(sort);
                return false;
            }
            put(sort == Tokens.NUMBER ? number : ~sort);
            endPart();
            return true;
        }

        private int faultBehindPart(int sort) {
            // Each not is settled as soon as its part is, so that depth counts open ( alone here.
            if (sort == ';' || sort == ')') {
                return (sort == ';') == (depth == 0) ? 0 : Reader.CANT_STAND;
            }
            int rank = rank(sort);
            return rank == 0 || rank == COMPARES && comparesAlready() ? Reader.CANT_STAND : 0;
        }

        private boolean comparesAlready() {
            for (int w = waits - 1; w >= 0 && rank(stack[w]) >= COMPARES; w--) {
                if (rank(stack[w]) == COMPARES) {
                    return true;
                }
            }
            return false;
        }

        private void takeBehindPart(int sort) {
            if (sort == ';') {
                settle(1);
            } else if (sort == ')') {
                settle(1);
                waits = Math.max(0, waits - 1);
                depth--;
                endPart();
            } else {
                settle(rank(sort));
                push(sort);
            }
        }

        private void push(int sort) {
            if (waits < DEEPEST) {
                stack[waits] = sort;
                waits++;
            }
        }

        private void put(int part) {
            if (length < code.length) {
                code[length] = part;
                length++;
            }
        }

        /** A part is whole: each not right ahead of it is, too. */
        private void endPart() {
            while (waits > 0 && stack[waits - 1] == Tokens.NOT) {
                put(~Tokens.NOT);
                waits--;
                depth--;
            }
        }

        private void settle(int rank) {
            while (waits > 0 && rank(stack[waits - 1]) >= rank) {
                put(~stack[waits - 1]);
                waits--;
            }
        }

        private static int rank(int sort) {
            switch (sort) {
                case Tokens.AND:
                case Tokens.OR:
                    return 1;
                case '<':
                case '=':
                    return COMPARES;
                case '+':
                case '-':
                    return 3;
                case '*':
                    return 4;
                default:
                    return 0;
            }
        }

        int value(int glass, int step, int age, int drunk) {
            int top = 0;
            for (int i = 0; i < length; i++) {
                int part = code[i];
                int sort = ~part;
                if (part >= 0 || Tokens.isFact(sort)) {
                    if (top >= DEEPEST) {
                        return 0;
                    }
                    stack[top] = part >= 0 ? part : fact(sort, glass, step, age, drunk);
                    top++;
                } else if (sort == Tokens.NOT) {
                    if (top < 1) {
                        return 0;
                    }
                    stack[top - 1] = stack[top - 1] == 0 ? 1 : 0;
                } else {
                    if (top < 2) {
                        return 0;
                    }
                    top--;
                    stack[top - 1] = joined(sort, stack[top - 1], stack[top]);
                }
            }
            return top > 0 ? stack[top - 1] : 0;
        }

        private static int fact(int sort, int glass, int step, int age, int drunk) {
            switch (sort) {
                case Tokens.GLASS:
                    return glass;
                case Tokens.STEP:
                    return step;
                case Tokens.AGE:
                    return age;
                default:
                    return drunk;
            }
        }

        private static int joined(int sort, int a, int b) {
            switch (sort) {
                case '*':
                    return a * b;
                case '+':
                    return a + b;
                case '-':
                    return a - b;
                case '<':
                    return a < b ? 1 : 0;
                case '=':
                    return a == b ? 1 : 0;
                case Tokens.AND:
                    return a != 0 && b != 0 ? 1 : 0;
                default:
                    return a != 0 || b != 0 ? 1 : 0;
            }
        }
    }

    /** A cellar as it was told. A cell is y * 8 + x; a pose is a cell * 4 + a way. */
    private static final class Cellar {
        int wide = 2;
        int deep = 2;
        long pillars = 0;
        int carriage = 0;
        int dances = 0;
        final int[] danceLength = new int[MOST];
        final int[] danceSteps = new int[MOST * DANCE_STEPS];
        int wines = 0;
        final int[] wineGlasses = new int[MOST];
        final int[] wineLength = new int[MOST];
        final int[] wineSteps = new int[MOST * WINE_STEPS];
        int guests = 0;
        final int[] kind = new int[MOST];
        final int[] home = new int[MOST];
        final int[] age = new int[MOST];
        final Law law = new Law();

        void clear() {
            wide = 2;
            deep = 2;
            pillars = 0;
            carriage = 0;
            dances = 0;
            wines = 0;
            guests = 0;
            law.clear();
        }

        boolean isDance(int number) {
            return number >= 0 && number < dances;
        }

        boolean isWine(int number) {
            return number >= 0 && number < wines;
        }

        boolean isGuest(int number) {
            return number >= 0 && number < guests;
        }

        boolean isCell(int x, int y) {
            return x >= 0 && x < wide && y >= 0 && y < deep;
        }

        /** The pose behind one step of a guest of a kind; nobody comes into the closed cells. */
        int after(int pose, int step, int kindOfGuest, long closed) {
            if (step == REST || kindOfGuest == WAITER) {
                return pose;
            }
            if (step == LEFT || step == RIGHT) {
                boolean toLeft = (step == LEFT) != (kindOfGuest == UNCLE);
                return pose & ~3 | (pose + (toLeft ? 3 : 1)) & 3;
            }
            int far = step == HOP && kindOfGuest != LAME ? 2 : 1;
            int cell = pose >> 2;
            int x = cell & 7;
            int y = cell >> 3;
            switch (pose & 3) {
                case 0:
                    y += far;
                    break;
                case 1:
                    x += far;
                    break;
                case 2:
                    y -= far;
                    break;
                default:
                    x -= far;
                    break;
            }
            if (!isCell(x, y) || (closed >>> (y * 8 + x) & 1) != 0) {
                return pose;
            }
            return (y * 8 + x) * 4 + (pose & 3);
        }

        boolean loses(int guest, int glass, int step, int drunk) {
            return law.value(glass, step, age[guest], drunk) != 0;
        }
    }

    /** The tokens of a text. A sort is a known word's number, one of four others, or a sign's own code. */
    private static final class Tokens {
        private static final String WORDS =
                "hall    pillar  carriagedance   wine    glasses of      guest   at      way     age     stagger ahead   hop     left    right   rest    plain   waiter  lame    uncle   old     not     and     or      glass   step    drunk   ";
        private static final int WORD_LETTERS = 8;
        private static final int NUMBER_DIGITS = 4;
        static final int HALL = 0;
        static final int PILLAR = 1;
        static final int CARRIAGE = 2;
        static final int DANCE = 3;
        static final int WINE = 4;
        static final int GLASSES = 5;
        static final int OF = 6;
        static final int GUEST = 7;
        static final int AT = 8;
        static final int WAY = 9;
        static final int AGE = 10;
        static final int STAGGER = 11;
        static final int FIRST_STEP = 12;
        static final int FIRST_KIND = 17;
        static final int NOT = 22;
        static final int AND = 23;
        static final int OR = 24;
        static final int GLASS = 25;
        static final int STEP = 26;
        static final int DRUNK = 27;
        static final int NAME = 30;
        static final int NUMBER = 31;
        static final int WRONG = 32;
        static final int END = 33;

        final int[] sort = new int[TAPE_SIGNS + 1];
        final int[] place = new int[TAPE_SIGNS + 1];
        final long[] value = new long[TAPE_SIGNS + 1];
        int many = 0;

        static boolean isFact(int sort) {
            return sort == AGE || sort >= GLASS && sort <= DRUNK;
        }

        static boolean isName(int sort) {
            return sort == NAME || sort >= GLASS && sort <= DRUNK;
        }

        static boolean isStep(int sort) {
            return sort >= FIRST_STEP && sort <= FIRST_STEP + REST;
        }

        static boolean isKind(int sort) {
            return sort >= FIRST_KIND && sort <= FIRST_KIND + OLD;
        }

        void cut(char[] text, int length) {
            many = 0;
            int at = 0;
            for (int n = 0; n < length && at < length; n++) {
                char sign = text[at];
                if (isLetter(sign)) {
                    at = putWord(text, length, at);
                } else if (isDigit(sign)) {
                    at = putNumber(text, length, at);
                } else {
                    if (sign != 10 && sign != ' ') {
                        put(isSign(sign) ? sign : WRONG, at, 0);
                    }
                    at++;
                }
            }
            put(END, length, 0);
        }

        private void put(int newSort, int newPlace, long newValue) {
            if (many < sort.length) {
                sort[many] = newSort;
                place[many] = newPlace;
                value[many] = newValue;
                many++;
            }
        }

        private int putWord(char[] text, int length, int from) {
            int at = from;
            long letters = 0;
            while (at < length && isLetter(text[at])) {
                letters = letters << 8 | text[at];
                at++;
            }
            put(at - from > WORD_LETTERS ? WRONG : sortOfWord(letters), from, letters);
            return at;
        }

        private int putNumber(char[] text, int length, int from) {
            int at = from;
            int number = 0;
            while (at < length && isDigit(text[at])) {
                number = number * 10 + (text[at] - '0');
                at++;
            }
            put(at - from > NUMBER_DIGITS ? WRONG : NUMBER, from, number);
            return at;
        }

        private static int sortOfWord(long letters) {
            for (int word = 0; word <= DRUNK; word++) {
                if (lettersOfWord(word) == letters) {
                    return word;
                }
            }
            return NAME;
        }

        private static long lettersOfWord(int word) {
            long letters = 0;
            for (int i = 0; i < WORD_LETTERS; i++) {
                char sign = WORDS.charAt(word * WORD_LETTERS + i);
                if (sign != ' ') {
                    letters = letters << 8 | sign;
                }
            }
            return letters;
        }

        private static boolean isLetter(char sign) {
            return sign >= 'a' && sign <= 'z';
        }

        private static boolean isDigit(char sign) {
            return sign >= '0' && sign <= '9';
        }

        private static boolean isSign(char sign) {
            return sign >= '(' && sign <= '+' || sign == '-' || sign >= ';' && sign <= '=';
        }
    }

    /** Reads a text as a cellar, up to its first fault. */
    private static final class Reader {
        private static final int CANT_STAND = 1;
        private static final int NO_DANCE = 2;
        private static final int TAKEN = 3;
        private static final int NOT_AS_TOLD = 4;
        private static final int TOO_MANY = 5;

        private final Tokens tokens = new Tokens();
        private Cellar into = null;
        private int at = 0;
        private int fault = 0;
        private final long[] names = new long[MOST * 3];
        private int named = 0;
        private final long[] danceNames = new long[MOST];
        private long guestCells = 0;
        private boolean carriageTold = false;
        private boolean lawTold = false;
        // What the last call of number or place has read.
        private int number = 0;
        private int cell = 0;

        int parse(char[] text, int length, Cellar cellar) {
            tokens.cut(text, length);
            into = cellar;
            into.clear();
            at = 0;
            fault = 0;
            named = 0;
            guestCells = 0;
            carriageTold = false;
            lawTold = false;
            boolean fine = hallLine();
            for (int lines = 0; lines < TAPE_SIGNS && fine && sort() != Tokens.END; lines++) {
                fine = line();
            }
            return fault;
        }

        private int sort() {
            return at < tokens.many ? tokens.sort[at] : Tokens.END;
        }

        private boolean wrong(int kind) {
            int last = Math.min(at, tokens.many - 1);
            fault = kind + 16 * (last >= 0 ? tokens.place[last] : 0);
            return false;
        }

        private boolean hallLine() {
            if (!word(Tokens.HALL) || !number(2, 8)) {
                return false;
            }
            into.wide = number;
            if (!number(2, 8)) {
                return false;
            }
            into.deep = number;
            return word(';');
        }

        private boolean line() {
            switch (sort()) {
                case Tokens.PILLAR:
                    return pillarLine();
                case Tokens.CARRIAGE:
                    return carriageTold ? wrong(TAKEN) : carriageLine();
                case Tokens.DANCE:
                    return into.dances >= MOST ? wrong(TOO_MANY) : danceLine();
                case Tokens.WINE:
                    return into.wines >= MOST ? wrong(TOO_MANY) : wineLine();
                case Tokens.GUEST:
                    return into.guests >= MOST ? wrong(TOO_MANY) : guestLine();
                case Tokens.STAGGER:
                    return lawTold ? wrong(TAKEN) : lawLine();
                default:
                    return wrong(CANT_STAND);
            }
        }

        private boolean pillarLine() {
            at++;
            long carriage = carriageTold ? 1L << into.carriage : 0;
            if (!place(into.pillars | carriage | guestCells)) {
                return false;
            }
            into.pillars |= 1L << cell;
            return word(';');
        }

        private boolean carriageLine() {
            at++;
            if (!place(into.pillars)) {
                return false;
            }
            into.carriage = cell;
            carriageTold = true;
            return word(';');
        }

        private boolean danceLine() {
            at++;
            int dance = into.dances;
            if (!newName()) {
                return false;
            }
            danceNames[dance] = names[named - 1];
            for (int steps = 0; steps <= DANCE_STEPS; steps++) {
                if (steps > 0 && sort() == ';') {
                    into.danceLength[dance] = steps;
                    break;
                }
                if (!Tokens.isStep(sort())) {
                    return wrong(CANT_STAND);
                }
                if (steps == DANCE_STEPS) {
                    return wrong(TOO_MANY);
                }
                into.danceSteps[dance * DANCE_STEPS + steps] = sort() - Tokens.FIRST_STEP;
                at++;
            }
            into.dances++;
            return word(';');
        }

        private boolean wineLine() {
            at++;
            int wine = into.wines;
            if (!newName() || !word(Tokens.GLASSES) || !number(0, 99)) {
                return false;
            }
            into.wineGlasses[wine] = number;
            into.wineLength[wine] = 0;
            if (!word(Tokens.OF)) {
                return false;
            }
            int used = 0;
            for (int parts = 0; parts <= WINE_PARTS; parts++) {
                if (parts > 0 && sort() == ';') {
                    break;
                }
                int dance = partName(parts, used);
                if (dance == NONE || !number(1, 4)) {
                    return false;
                }
                used |= 1 << dance;
                blend(wine, dance, number);
            }
            into.wines++;
            return word(';');
        }

        /** The dance that a wine's next part names, or NONE with the fault told. */
        private int partName(int parts, int used) {
            if (!Tokens.isName(sort())) {
                wrong(CANT_STAND);
                return NONE;
            }
            int dance = danceNamed(tokens.value[at]);
            if (dance == NONE) {
                wrong(NO_DANCE);
                return NONE;
            }
            if ((used >> dance & 1) != 0 || parts == WINE_PARTS) {
                wrong((used >> dance & 1) != 0 ? TAKEN : TOO_MANY);
                return NONE;
            }
            at++;
            return dance;
        }

        private int danceNamed(long name) {
            for (int d = 0; d < into.dances; d++) {
                if (danceNames[d] == name) {
                    return d;
                }
            }
            return NONE;
        }

        private void blend(int wine, int dance, int times) {
            int many = into.danceLength[dance];
            for (int n = 0; n < times; n++) {
                int end = into.wineLength[wine];
                if (end + many > WINE_STEPS) {
                    return;
                }
                System.arraycopy(into.danceSteps, dance * DANCE_STEPS, into.wineSteps, wine * WINE_STEPS + end, many);
                into.wineLength[wine] = end + many;
            }
        }

        private boolean guestLine() {
            at++;
            int guest = into.guests;
            if (!newName()) {
                return false;
            }
            if (!Tokens.isKind(sort())) {
                return wrong(CANT_STAND);
            }
            into.kind[guest] = sort() - Tokens.FIRST_KIND;
            at++;
            if (!word(Tokens.AT) || !place(into.pillars) || !word(Tokens.WAY) || !number(0, 3)) {
                return false;
            }
            into.home[guest] = cell * 4 + number;
            if (!word(Tokens.AGE) || !number(0, 99)) {
                return false;
            }
            into.age[guest] = number;
            guestCells |= 1L << cell;
            into.guests++;
            return word(';');
        }

        private boolean lawLine() {
            at++;
            lawTold = true;
            int kind = into.law.build(tokens, at);
            at = into.law.at;
            return kind == 0 || wrong(kind);
        }

        private boolean word(int due) {
            if (sort() != due) {
                return wrong(CANT_STAND);
            }
            at++;
            return true;
        }

        private boolean newName() {
            if (!Tokens.isName(sort())) {
                return wrong(CANT_STAND);
            }
            long name = tokens.value[at];
            for (int n = 0; n < named; n++) {
                if (names[n] == name) {
                    return wrong(TAKEN);
                }
            }
            if (named >= names.length) {
                return wrong(TOO_MANY);
            }
            names[named] = name;
            named++;
            at++;
            return true;
        }

        private boolean number(int least, int most) {
            if (sort() != Tokens.NUMBER) {
                return wrong(CANT_STAND);
            }
            number = (int) tokens.value[at];
            if (number < least || number > most) {
                return wrong(NOT_AS_TOLD);
            }
            at++;
            return true;
        }

        private boolean place(long taken) {
            if (!number(0, into.wide - 1)) {
                return false;
            }
            int x = number;
            if (!number(0, into.deep - 1)) {
                return false;
            }
            cell = number * 8 + x;
            if ((taken >>> cell & 1) != 0) {
                at--;
                return wrong(TAKEN);
            }
            return true;
        }
    }

    /** What marks hold: the glasses left, what each has drunk, who is seen where. */
    private static final class Evening {
        final int[] left = new int[MOST];
        final int[] had = new int[MOST];
        final int[] glasses = new int[MOST * MOST];
        final int[] seen = new int[MOST];

        Evening() {
            Arrays.fill(seen, NONE);
        }

        void begin(Cellar cellar) {
            Arrays.fill(left, 0);
            System.arraycopy(cellar.wineGlasses, 0, left, 0, cellar.wines);
            Arrays.fill(had, 0);
            Arrays.fill(seen, NONE);
        }

        void copyOf(Evening other) {
            System.arraycopy(other.left, 0, left, 0, MOST);
            System.arraycopy(other.had, 0, had, 0, MOST);
            System.arraycopy(other.glasses, 0, glasses, 0, MOST * MOST);
            System.arraycopy(other.seen, 0, seen, 0, MOST);
        }

        boolean give(int guest, int wine) {
            int many = had[guest];
            if (many >= MOST) {
                return false;
            }
            glasses[guest * MOST + many] = wine;
            had[guest] = many + 1;
            return true;
        }

        int forget(int guest) {
            int last = had[guest] - 1;
            if (last < 0) {
                return NONE;
            }
            had[guest] = last;
            return glasses[guest * MOST + last];
        }

        int glassesLeft() {
            int sum = 0;
            for (int w = 0; w < MOST; w++) {
                sum += left[w];
            }
            return sum;
        }

        int seenGuests() {
            int many = 0;
            for (int g = 0; g < MOST; g++) {
                if (seen[g] != NONE) {
                    many++;
                }
            }
            return many;
        }
    }

    /** The last glasses and waters, so that they can be undone. */
    private static final class Past {
        private static final int WATER_BIT = 64;

        private final int[] acts = new int[UNDOABLE];
        int many = 0;

        void clear() {
            many = 0;
        }

        void add(int guest, int wine, boolean water) {
            if (many >= UNDOABLE) {
                System.arraycopy(acts, 1, acts, 0, UNDOABLE - 1);
                many = UNDOABLE - 1;
            }
            acts[many] = guest * 8 + wine + (water ? WATER_BIT : 0);
            many++;
        }

        private int last() {
            return many > 0 ? acts[many - 1] : 0;
        }

        int lastGuest() {
            return last() >> 3 & 7;
        }

        int lastWine() {
            return last() & 7;
        }

        boolean lastWasWater() {
            return (last() & WATER_BIT) != 0;
        }

        void dropLast() {
            if (many > 0) {
                many--;
            }
        }
    }

    /** All steps of a guest in the order in which it takes them, those that the law loses being rest. */
    private static final class Routine {
        final int[] steps = new int[ROUTINE_STEPS];
        int length = 0;
        int lost = 0;
        // Where it ends by itself, and the cells that it comes into on the way there: who stands
        // in none of these changes nothing.
        int alone = 0;
        private long entered = 0;
        private int kind = 0;
        private int home = 0;

        void make(Cellar cellar, int guest, int[] glasses, int from, int many) {
            length = 0;
            lost = 0;
            kind = cellar.kind[guest];
            home = cellar.home[guest];
            if (kind != WAITER) {
                for (int n = 0; n < many; n++) {
                    int glass = kind == OLD ? many - 1 - n : n;
                    drink(cellar, guest, glasses[from + glass], glass, many);
                }
            }
            walkAlone(cellar);
        }

        private void drink(Cellar cellar, int guest, int wine, int glass, int drunk) {
            int many = Math.min(cellar.wineLength[wine], ROUTINE_STEPS - length);
            for (int s = 0; s < many; s++) {
                boolean loses = cellar.loses(guest, glass, s, drunk);
                if (loses) {
                    lost++;
                }
                steps[length] = loses ? REST : cellar.wineSteps[wine * WINE_STEPS + s];
                length++;
            }
        }

        private void walkAlone(Cellar cellar) {
            entered = 0;
            alone = home;
            for (int s = 0; s < length; s++) {
                int before = alone >> 2;
                alone = cellar.after(alone, steps[s], kind, cellar.pillars);
                if (alone >> 2 != before) {
                    entered |= 1L << (alone >> 2);
                }
            }
        }

        /** The cell in which it ends if others stand in these cells. */
        int endAmong(Cellar cellar, long others) {
            if ((others & entered) == 0) {
                return alone >> 2;
            }
            int pose = home;
            long closed = cellar.pillars | others;
            for (int s = 0; s < length; s++) {
                pose = cellar.after(pose, steps[s], kind, closed);
            }
            return pose >> 2;
        }

        boolean beginsWith(Cellar cellar, int dance) {
            int many = cellar.danceLength[dance];
            if (length < many) {
                return false;
            }
            for (int s = 0; s < many; s++) {
                if (steps[s] != cellar.danceSteps[dance * DANCE_STEPS + s]) {
                    return false;
                }
            }
            return true;
        }
    }

    /** Rows of wines that a guest who had drunk nothing might have. */
    private static final class Rows {
        final int[] row = new int[MOST];
        int many = 0;
        int hits = 0;
        // Whether row and many are still the answer for the guest and the cell asked last.
        boolean known = false;
        private int shortestMany = 0;
        private int cell = 0;
        private Cellar cellar = null;
        private int guest = 0;
        private final int[] left = new int[MOST];
        private final boolean[] lost = new boolean[ROUTINE_STEPS];
        // Of each glass, wine and pose the pose behind that glass, so that each is walked but once.
        private final short[] behind = new short[MOST * MOST * POSES];
        // Of each pose, as bits, behind how many glasses one may be there.
        private final int[] reached = new int[POSES];

        /** The fewest glasses to a cell, or NONE; row then has the wines. */
        int shortest(Cellar in, int who, int toCell, int[] glasses) {
            if (known && who == guest && toCell == cell) {
                return shortestMany;
            }
            int all = 0;
            for (int w = 0; w < in.wines; w++) {
                left[w] = glasses[w];
                all += glasses[w];
            }
            cell = toCell;
            shortestMany = NONE;
            int most = in.kind[who] == WAITER ? 0 : Math.min(all, MOST);
            for (int n = 0; n <= most && shortestMany == NONE; n++) {
                ready(in, who, n);
                if (mayReach() && choose(0)) {
                    shortestMany = n;
                }
            }
            known = true;
            return shortestMany;
        }

        /** Counts the rows to a pose in hits; true: it came to the wanted one, which is in row. */
        boolean seek(Cellar in, int who, int pose, int wanted) {
            known = false;
            hits = 0;
            int all = 1;
            for (int n = 0; n <= SERVED_GLASSES; n++) {
                ready(in, who, n);
                for (int r = 0; r < all; r++) {
                    setRow(r);
                    if (end() == pose) {
                        if (hits == wanted) {
                            return true;
                        }
                        hits++;
                    }
                }
                all *= in.wines;
            }
            return false;
        }

        private void ready(Cellar in, int who, int glasses) {
            cellar = in;
            guest = who;
            many = glasses;
            Arrays.fill(behind, 0, glasses * MOST * POSES, (short) NONE);
            int longest = 0;
            for (int w = 0; w < in.wines; w++) {
                longest = Math.max(longest, in.wineLength[w]);
            }
            for (int g = 0; g < glasses; g++) {
                for (int s = 0; s < longest; s++) {
                    lost[g * WINE_STEPS + s] = in.loses(who, g, s, glasses);
                }
            }
        }

        private void setRow(int number) {
            int rest = number;
            int base = Math.max(1, cellar.wines);
            for (int at = many - 1; at >= 0; at--) {
                row[at] = rest % base;
                rest /= base;
            }
        }

        /** Which glass is danced as the n-th. */
        private int danced(int n) {
            return cellar.kind[guest] == OLD ? many - 1 - n : n;
        }

        private int end() {
            int pose = cellar.home[guest];
            for (int n = 0; n < many; n++) {
                int glass = danced(n);
                pose = behindGlass(glass, row[glass], pose);
            }
            return pose;
        }

        private int behindGlass(int glass, int wine, int pose) {
            int at = (glass * MOST + wine) * POSES + pose;
            if (behind[at] == NONE) {
                int to = pose;
                for (int s = 0; s < cellar.wineLength[wine]; s++) {
                    if (!lost[glass * WINE_STEPS + s]) {
                        int step = cellar.wineSteps[wine * WINE_STEPS + s];
                        to = cellar.after(to, step, cellar.kind[guest], cellar.pillars);
                    }
                }
                behind[at] = (short) to;
            }
            return behind[at];
        }

        /** Whether so many glasses reach the cell if each wine had enough: far cheaper than to try all rows. */
        private boolean mayReach() {
            Arrays.fill(reached, 0);
            reached[cellar.home[guest]] = 1;
            for (int n = 0; n < many; n++) {
                for (int pose = 0; pose < POSES; pose++) {
                    if ((reached[pose] >> n & 1) != 0) {
                        reachBehind(n, pose);
                    }
                }
            }
            int ends = 0;
            for (int way = 0; way < 4; way++) {
                ends |= reached[cell * 4 + way];
            }
            return (ends >> many & 1) != 0;
        }

        private void reachBehind(int n, int pose) {
            for (int w = 0; w < cellar.wines; w++) {
                if (left[w] > 0) {
                    reached[behindGlass(danced(n), w, pose)] |= 1 << n + 1;
                }
            }
        }

        private boolean choose(int at) {
            if (at >= many) {
                return end() >> 2 == cell;
            }
            for (int w = 0; w < cellar.wines; w++) {
                if (left[w] > 0) {
                    left[w]--;
                    row[at] = w;
                    boolean reached = choose(at + 1);
                    left[w]++;
                    if (reached) {
                        return true;
                    }
                }
            }
            return false;
        }
    }

    /** A ball: all guests at once, beat by beat. */
    private static final class Floor {
        private static final int DRAWS = 8;

        final int[] pose = new int[MOST];
        int beats = 0;
        private long seed = 0;

        void hold(Cellar cellar, Routine[] routines, int hiccup, int firstSeed) {
            seed = firstSeed;
            beats = 0;
            for (int g = 0; g < cellar.guests; g++) {
                pose[g] = cellar.home[g];
                beats = Math.max(beats, routines[g].length);
            }
            for (int beat = 0; beat < beats; beat++) {
                for (int g = 0; g < cellar.guests; g++) {
                    if (beat < routines[g].length) {
                        int step = draw() < hiccup ? REST : routines[g].steps[beat];
                        long closed = cellar.pillars | others(g, cellar.guests);
                        pose[g] = cellar.after(pose[g], step, cellar.kind[g], closed);
                    }
                }
            }
        }

        private int draw() {
            seed = (seed * 1103515245L + 12345L) % 2147483648L;
            return (int) (seed / 65536L % DRAWS);
        }

        private long others(int guest, int guests) {
            long cells = 0;
            for (int g = 0; g < guests; g++) {
                if (g != guest) {
                    cells |= 1L << (pose[g] >> 2);
                }
            }
            return cells;
        }
    }

    /** Guests sent one by one, and the best order for it. Orders are digits to the base of 8, the first the lowest. */
    private static final class Sending {
        // Whether bestGone and bestOrder are still the answer.
        boolean known = false;
        int bestGone = 0;
        int bestOrder = 0;
        private Cellar cellar = null;
        private Routine[] routines = null;
        private final int[] cell = new int[MOST];
        private int gone = 0;

        static boolean isOrder(int order, int guests) {
            int rest = order;
            int named = 0;
            for (int n = 0; n < guests; n++) {
                int guest = rest & 7;
                if (guest >= guests || (named >> guest & 1) != 0) {
                    return false;
                }
                named |= 1 << guest;
                rest >>>= 3;
            }
            return rest == 0;
        }

        int goneBy(Cellar in, Routine[] all, int order) {
            begin(in, all);
            for (int n = 0; n < in.guests; n++) {
                int guest = order >> 3 * n & 7;
                if (guest < in.guests) {
                    go(guest);
                }
            }
            return gone;
        }

        void seekBest(Cellar in, Routine[] all) {
            if (known) {
                return;
            }
            begin(in, all);
            bestGone = NONE;
            bestOrder = 0;
            tryAll(0, 0, 0);
            known = true;
        }

        private void begin(Cellar in, Routine[] all) {
            cellar = in;
            routines = all;
            gone = 0;
            for (int g = 0; g < in.guests; g++) {
                cell[g] = in.home[g] >> 2;
            }
        }

        private void go(int guest) {
            long others = 0;
            for (int g = 0; g < cellar.guests; g++) {
                if (g != guest && (gone >> g & 1) == 0) {
                    others |= 1L << cell[g];
                }
            }
            cell[guest] = routines[guest].endAmong(cellar, others);
            if (cell[guest] == cellar.carriage) {
                gone |= 1 << guest;
            }
        }

        /** Tries all that may follow, the first order first; one that can only be as good is none better. */
        private void tryAll(int sent, int sentBits, int order) {
            int goneNow = Integer.bitCount(gone);
            if (sent >= cellar.guests) {
                if (goneNow > bestGone) {
                    bestGone = goneNow;
                    bestOrder = order;
                }
                return;
            }
            for (int g = 0; g < cellar.guests; g++) {
                if ((sentBits >> g & 1) == 0 && goneNow + cellar.guests - sent > bestGone) {
                    int goneBefore = gone;
                    go(g);
                    tryAll(sent + 1, sentBits | 1 << g, order | g << 3 * sent);
                    gone = goneBefore;
                    cell[g] = cellar.home[g] >> 2;
                }
            }
        }
    }

    /** Rows of steps that bring each guest seen to where it was seen. */
    private static final class Reading {
        int hits = 0;
        int wantedRow = NONE;
        private int wanted = NONE;
        private int steps = 0;
        private Cellar cellar = null;
        private int[] seen = null;
        // The guests' poses behind each number of steps.
        private final int[] pose = new int[(READ_STEPS + 1) * MOST];

        /** Counts the rows in hits; the wanted one is in wantedRow then, or NONE. */
        void seek(Cellar in, int[] seenCells, int many, int wantedHit) {
            cellar = in;
            seen = seenCells;
            steps = Math.min(many, READ_STEPS);
            wanted = wantedHit;
            wantedRow = NONE;
            hits = 0;
            System.arraycopy(in.home, 0, pose, 0, in.guests);
            tryFrom(0, 0);
        }

        private void tryFrom(int taken, int digits) {
            if (taken >= steps) {
                if (allThere()) {
                    wantedRow = hits == wanted ? digits : wantedRow;
                    hits++;
                }
                return;
            }
            for (int step = AHEAD; step <= REST && wantedRow == NONE; step++) {
                for (int g = 0; g < cellar.guests; g++) {
                    int before = pose[taken * MOST + g];
                    pose[taken * MOST + MOST + g] = cellar.after(before, step, cellar.kind[g], cellar.pillars);
                }
                tryFrom(taken + 1, digits * (REST + 1) + step);
            }
        }

        private boolean allThere() {
            for (int g = 0; g < cellar.guests; g++) {
                if (seen[g] != NONE && pose[steps * MOST + g] >> 2 != seen[g]) {
                    return false;
                }
            }
            return true;
        }
    }
}
