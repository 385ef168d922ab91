import java.util.Arrays;

/** Dusk in a valley, let down on ropes by a windlass; ../shared/DOC.md tells its promises. */
public final class DuskOnRopes {
    public static final int BAD = -1, NO = -2, FULL = -3, NONE = -4;

    private static final int YARDS = 24;
    private static final int MOST_LETTERS = 200;
    private static final int MOST_ROPES = 5;
    private static final int MOST_WANTS = 8;
    private static final int MOST_MEN = 6;
    private static final int MOST_NUMBERS = 4;
    private static final int MOST_PACE = 5;
    private static final int MOST_TURNS = 40;
    private static final int MOST_PRICE = 9;
    private static final int MOST_HOURS = 99;
    private static final int MOST_SEEN = 8;
    private static final int MOST_UNDONE = 8;
    private static final int MOST_KEPT = 2;
    private static final int SOON_HOURS = 24;
    private static final int PLAN_HOURS = 4;
    private static final int GREASE_HOURS = 12;
    private static final int PACE_HOURS = 8;
    private static final int SLIP_HOURS = 6;
    private static final int EVENING_HOURS = 24;
    private static final int LAST_EVENING = 9999;
    private static final int SLIP_SIZES = 10;
    private static final int TENTHS = 10;

    private static final int GREASED = 1;
    private static final int FRAYED = 2;
    private static final int STUCK = 3;

    private static final int NOON = 0;
    private static final int BROWN = 2;
    private static final int NIGHT = 3;
    private static final int TURNS_A_LIGHT = 10;

    private static final int DOWN = 1;
    private static final int UP = -1;
    private static final int STILL = 0;

    private static final String FIRST_TEXT =
        "r2,3,0,0;r9,2,2,4;r15,4,1,0;r21,5,3,6;w4,1;w10,2;w20,0;m0;m8;m12;m23;m16;c1,2;";

    private final Text text;
    private final Reader reader;
    private Valley valley;
    private Valley draft;
    private final Dusk now;
    private final Skies undoable;
    private final Skies kept;
    private final Ahead ahead;
    private final Planner planner;
    private final Poster poster;
    private final Clues clues;
    private final Chances chances;

    public DuskOnRopes() {
        text = new Text();
        reader = new Reader();
        valley = new Valley();
        draft = new Valley();
        now = new Dusk();
        undoable = new Skies(MOST_UNDONE);
        kept = new Skies(MOST_KEPT);
        ahead = new Ahead();
        planner = new Planner();
        poster = new Poster();
        clues = new Clues();
        chances = new Chances();
        layFirstText();
    }

    // ---- valleys

    public int write(int letter) {
        if (letter < 32 || letter > 126) {
            return BAD;
        }
        if (text.isFull()) {
            return FULL;
        }
        text.add((char) letter);
        return text.length();
    }

    public int wipe() {
        int was = text.length();
        text.clear();
        return was;
    }

    public int fault() {
        return reader.read(text, draft);
    }

    public int lay() {
        if (reader.read(text, draft) != NONE || draft.ropes == 0) {
            return NO;
        }
        Valley old = valley;
        valley = draft;
        draft = old;
        now.begin(valley);
        undoable.clear();
        kept.clear();
        clues.clear();
        return valley.ropes;
    }

    public int rope(int k, int what) {
        if (!valley.hasRope(k)) {
            return BAD;
        }
        switch (what) {
            case 0:
                return valley.ropeYards[k];
            case 1:
                return valley.paces[k];
            case 2:
                return now.kinds[k];
            case 3:
                return now.turns[k];
            default:
                return BAD;
        }
    }

    public int sky(int y) {
        return isYard(y) ? valley.lowness(now.turns, y) : BAD;
    }

    public int light(int y) {
        return isYard(y) ? valley.lightOver(now.turns, y) : BAD;
    }

    // ---- hours

    public int hour(int down, int up) {
        if (!valley.hasSet(down) || !valley.hasSet(up) || (down & up) != 0) {
            return BAD;
        }
        if (now.hours >= MOST_HOURS) {
            return NO;
        }
        undoable.push(now);
        int price = valley.price(down, up);
        now.pass(valley, down, up);
        now.cost += price;
        return price;
    }

    public int grease(int k) {
        if (!valley.hasRope(k)) {
            return BAD;
        }
        undoable.push(now);
        int was = now.kinds[k];
        now.kinds[k] = GREASED;
        return was;
    }

    public int undo() {
        if (undoable.size() == 0) {
            return NO;
        }
        undoable.popInto(now);
        return undoable.size();
    }

    // ---- light

    public int met() {
        return valley.metBits(now.turns);
    }

    public int noon() {
        for (int yard = 0; yard < YARDS; yard++) {
            if (valley.lightOver(now.turns, yard) == NOON) {
                return yard;
            }
        }
        return NONE;
    }

    public int soon(int y, int u) {
        if (!isYard(y) || !isLight(u)) {
            return BAD;
        }
        return ahead.hoursUntil(valley, now, y, u);
    }

    public int plan(int k) {
        if (k != -1 && !valley.hasRope(k)) {
            return BAD;
        }
        planner.search(valley, now);
        if (planner.fewest == NONE) {
            return NONE;
        }
        return k == -1 ? planner.fewest : planner.bestHours[k];
    }

    public int best(int n, int what) {
        if (n < 1 || n > GREASE_HOURS || what < 0 || what > 1) {
            return BAD;
        }
        int first = 0;
        int most = -1;
        for (int k = 0; k < valley.ropes; k++) {
            int nights = ahead.nightsIfGreased(valley, now, k, n);
            if (nights > most) {
                most = nights;
                first = k;
            }
        }
        return what == 0 ? first : most;
    }

    public int posts(int k) {
        if (k != -1 && !valley.hasRope(k)) {
            return BAD;
        }
        poster.search(valley);
        if (poster.fewest == NONE) {
            return NONE;
        }
        return k == -1 ? poster.fewest : poster.bestMen[k];
    }

    public int brown(int what) {
        if (what < 0 || what > 2) {
            return BAD;
        }
        int all = 0;
        int row = 0;
        int longest = 0;
        int start = NONE;
        for (int yard = 0; yard < YARDS; yard++) {
            if (valley.lightOver(now.turns, yard) == BROWN) {
                all++;
                row++;
            } else {
                row = 0;
            }
            if (row > longest) {
                longest = row;
                start = yard - row + 1;
            }
        }
        if (what == 0) {
            return all;
        }
        return what == 1 ? longest : start;
    }

    // ---- what was seen

    public int seen(int y, int v) {
        if (!isYard(y) || !isLowness(v)) {
            return BAD;
        }
        if (clues.isFull()) {
            return FULL;
        }
        clues.add(y, v);
        return clues.size();
    }

    public int forget() {
        int was = clues.size();
        clues.clear();
        return was;
    }

    public int slipped(int what) {
        if (what < 0 || what > 1) {
            return BAD;
        }
        clues.findFitting(valley, now.turns);
        if (what == 0) {
            return clues.fitting;
        }
        return clues.fitting == 0 ? NONE : clues.codes[0];
    }

    public int look(int what) {
        if (what < 0 || what > 1) {
            return BAD;
        }
        clues.findFitting(valley, now.turns);
        if (clues.fitting == 0) {
            return NONE;
        }
        int first = 0;
        int fewest = clues.fitting + 1;
        for (int yard = 0; yard < YARDS; yard++) {
            int worst = clues.mostAlike(valley, now.turns, yard);
            if (worst < fewest) {
                fewest = worst;
                first = yard;
            }
        }
        return what == 0 ? first : fewest;
    }

    public int paces(int k, int n, int v) {
        if (!valley.hasRope(k) || n < 1 || n > PACE_HOURS || !isLowness(v)) {
            return BAD;
        }
        int bits = 0;
        for (int pace = 1; pace <= MOST_PACE; pace++) {
            int turns = now.turns[k];
            for (int i = 0; i < n; i++) {
                turns = turnsThen(turns, pace, now.kinds[k], now.hours + i, DOWN);
            }
            if (turns == v) {
                bits |= 1 << pace;
            }
        }
        return bits;
    }

    public int slips(int k, int n, int x, int u, int part) {
        if (!valley.hasRope(k) || n < 0 || n > SLIP_HOURS || x < 0 || x > TENTHS) {
            return BAD;
        }
        if (!isLight(u) || part < 0 || part > 1) {
            return BAD;
        }
        chances.spread(n, x);
        int above = chances.waysToLight(now.turns[k], n, u);
        int below = chances.allWays(n);
        int common = commonDivisor(above, below);
        if (common < 1) {
            return BAD;
        }
        return (part == 0 ? above : below) / common;
    }

    public int spent(int what) {
        if (what < 0 || what > 1) {
            return BAD;
        }
        return what == 0 ? now.cost : now.hours;
    }

    public int evening(int z, int n, int what) {
        if (z < 0 || z > LAST_EVENING || n < 1 || n > EVENING_HOURS || what < 0 || what > 1) {
            return BAD;
        }
        Dusk then = ahead.drawn(valley, now, z, n);
        if (what == 0) {
            return Integer.bitCount(valley.metBits(then.turns));
        }
        return valley.nights(then.turns);
    }

    // ---- kept

    public int keep() {
        if (kept.isFull()) {
            return FULL;
        }
        kept.push(now);
        return kept.size();
    }

    public int back() {
        if (kept.size() == 0) {
            return NO;
        }
        kept.popInto(now);
        undoable.clear();
        return kept.size();
    }

    public int count(int what) {
        switch (what) {
            case 0:
                return valley.ropes;
            case 1:
                return valley.wants;
            case 2:
                return valley.men;
            case 3:
                return clues.size();
            case 4:
                return undoable.size();
            case 5:
                return kept.size();
            case 6:
                return text.length();
            default:
                return BAD;
        }
    }

    private void layFirstText() {
        for (int i = 0; i < FIRST_TEXT.length(); i++) {
            text.add(FIRST_TEXT.charAt(i));
        }
        reader.read(text, valley);
        now.begin(valley);
        text.clear();
    }

    private static boolean isYard(int y) {
        return y >= 0 && y < YARDS;
    }

    private static boolean isLight(int u) {
        return u >= NOON && u <= NIGHT;
    }

    private static boolean isLowness(int v) {
        return v >= 0 && v <= MOST_TURNS;
    }

    private static int within(int turns) {
        return Math.max(0, Math.min(MOST_TURNS, turns));
    }

    private static int lightAt(int turns) {
        return turns >= NIGHT * TURNS_A_LIGHT ? NIGHT : turns / TURNS_A_LIGHT;
    }

    /** The turns of one rope behind one hour; way is DOWN, UP or STILL. */
    private static int turnsThen(int turns, int pace, int kind, int hour, int way) {
        int by = pace;
        if (kind == GREASED) {
            by = pace + 1;
        }
        if (kind == STUCK && hour % 2 != 0) {
            by = 0;
        }
        int then = within(turns + way * by);
        if (kind == FRAYED && then != 0 && then % 3 == 0) {
            then--;
        }
        return then;
    }

    private static int commonDivisor(int a, int b) {
        int larger = Math.max(a, b);
        int smaller = Math.min(a, b);
        // Euclid's steps halve the larger one at least every second time, so 64 are enough for an int.
        for (int step = 0; step < 64 && smaller > 0; step++) {
            int rest = larger % smaller;
            larger = smaller;
            smaller = rest;
        }
        return larger;
    }

    /** The letters that have been written. */
    static final class Text {
        private final char[] letters;
        private int length;

        Text() {
            letters = new char[MOST_LETTERS];
            length = 0;
        }

        boolean isFull() {
            return length >= MOST_LETTERS;
        }

        void add(char letter) {
            if (length < MOST_LETTERS) {
                letters[length] = letter;
                length++;
            }
        }

        void clear() {
            length = 0;
        }

        int length() {
            return length;
        }

        /** 0, which no item has, beyond the end: so an item that breaks off is a fault like others. */
        int letterAt(int place) {
            return place >= 0 && place < length ? letters[place] : 0;
        }
    }

    /** Reads a text into a valley, item by item. */
    static final class Reader {
        private final int[] numbers;
        private int place;

        Reader() {
            numbers = new int[MOST_NUMBERS];
            place = 0;
        }

        /** The place of the fault, or NONE; the valley is whole only without a fault. */
        int read(Text text, Valley valley) {
            valley.clear();
            place = 0;
            for (int items = 0; items < MOST_LETTERS && place < text.length(); items++) {
                int start = place;
                int letter = text.letterAt(start);
                if (!readNumbers(text, numbersBehind(letter)) || !valley.take(letter, numbers)) {
                    return start;
                }
            }
            valley.findNeighbours();
            return NONE;
        }

        private static int numbersBehind(int letter) {
            switch (letter) {
                case 'r':
                    return 4;
                case 'w':
                    return 2;
                case 'm':
                    return 1;
                case 'c':
                    return 2;
                default:
                    return 0;
            }
        }

        private boolean readNumbers(Text text, int wanted) {
            if (wanted < 1 || wanted > MOST_NUMBERS) {
                return false;
            }
            place++;
            for (int i = 0; i < wanted; i++) {
                int number = readNumber(text);
                int mark = i + 1 < wanted ? ',' : ';';
                if (number < 0 || text.letterAt(place) != mark) {
                    return false;
                }
                numbers[i] = number;
                place++;
            }
            return true;
        }

        /** A number of one or two figures, or -1. */
        private int readNumber(Text text) {
            int first = figure(text.letterAt(place));
            if (first < 0) {
                return -1;
            }
            place++;
            int second = figure(text.letterAt(place));
            if (second < 0) {
                return first;
            }
            place++;
            return 10 * first + second;
        }

        private static int figure(int letter) {
            return letter >= '0' && letter <= '9' ? letter - '0' : -1;
        }
    }

    /** What a text lays: it stays as it is until the next one is laid. */
    static final class Valley {
        int ropes;
        int wants;
        int men;
        final int[] ropeYards;
        final int[] paces;
        final int[] firstKinds;
        final int[] firstTurns;
        final int[] wantYards;
        final int[] wantLights;
        final int[] manYards;
        private int downPrice;
        private int upPrice;
        /** By yard: the next rope at or before it, and at or behind it; the same one beyond the outermost. */
        private final int[] before;
        private final int[] behind;

        Valley() {
            ropeYards = new int[MOST_ROPES];
            paces = new int[MOST_ROPES];
            firstKinds = new int[MOST_ROPES];
            firstTurns = new int[MOST_ROPES];
            wantYards = new int[MOST_WANTS];
            wantLights = new int[MOST_WANTS];
            manYards = new int[MOST_MEN];
            before = new int[YARDS];
            behind = new int[YARDS];
            clear();
        }

        void clear() {
            ropes = 0;
            wants = 0;
            men = 0;
            downPrice = 1;
            upPrice = 2;
        }

        /** Takes an item, or answers false if it is none that may stand here. */
        boolean take(int letter, int[] numbers) {
            if (numbers.length < MOST_NUMBERS) {
                return false;
            }
            switch (letter) {
                case 'r':
                    return takeRope(numbers[0], numbers[1], numbers[2], numbers[3]);
                case 'w':
                    return takeWant(numbers[0], numbers[1]);
                case 'm':
                    return takeMan(numbers[0]);
                case 'c':
                    return takePrices(numbers[0], numbers[1]);
                default:
                    return false;
            }
        }

        private boolean takeRope(int yard, int pace, int kind, int turns) {
            if (ropes >= MOST_ROPES || !isYard(yard) || ropeOver(yard) != NONE) {
                return false;
            }
            if (pace < 1 || pace > MOST_PACE || kind < 0 || kind > STUCK || !isLowness(turns)) {
                return false;
            }
            ropeYards[ropes] = yard;
            paces[ropes] = pace;
            firstKinds[ropes] = kind;
            firstTurns[ropes] = turns;
            ropes++;
            return true;
        }

        private boolean takeWant(int yard, int light) {
            if (wants >= MOST_WANTS || !isYard(yard) || !isLight(light)) {
                return false;
            }
            wantYards[wants] = yard;
            wantLights[wants] = light;
            wants++;
            return true;
        }

        private boolean takeMan(int yard) {
            if (men >= MOST_MEN || !isYard(yard)) {
                return false;
            }
            manYards[men] = yard;
            men++;
            return true;
        }

        private boolean takePrices(int down, int up) {
            if (down < 0 || down > MOST_PRICE || up < 0 || up > MOST_PRICE) {
                return false;
            }
            downPrice = down;
            upPrice = up;
            return true;
        }

        private int ropeOver(int yard) {
            for (int k = 0; k < ropes; k++) {
                if (ropeYards[k] == yard) {
                    return k;
                }
            }
            return NONE;
        }

        /** Once for each text, as each question about the sky asks for neighbours. */
        void findNeighbours() {
            int last = NONE;
            for (int yard = 0; yard < YARDS; yard++) {
                int over = ropeOver(yard);
                last = over == NONE ? last : over;
                before[yard] = last;
            }
            int next = NONE;
            for (int yard = YARDS - 1; yard >= 0; yard--) {
                int over = ropeOver(yard);
                next = over == NONE ? next : over;
                behind[yard] = next == NONE ? before[yard] : next;
                before[yard] = before[yard] == NONE ? next : before[yard];
            }
        }

        boolean hasRope(int k) {
            return k >= 0 && k < ropes;
        }

        int sets() {
            return 1 << ropes;
        }

        boolean hasSet(int set) {
            return set >= 0 && set < sets();
        }

        int price(int down, int up) {
            return downPrice * Integer.bitCount(down) + upPrice * Integer.bitCount(up);
        }

        /** How low the sky is over a yard, if so many turns are let out. */
        int lowness(int[] turns, int yard) {
            if (!isYard(yard)) {
                return 0;
            }
            int a = before[yard];
            int b = behind[yard];
            if (!hasRope(a) || !hasRope(b)) {
                return 0;
            }
            int span = ropeYards[b] - ropeYards[a];
            if (span <= 0) {
                return turns[a];
            }
            return (turns[a] * (ropeYards[b] - yard) + turns[b] * (yard - ropeYards[a])) / span;
        }

        int lightOver(int[] turns, int yard) {
            return lightAt(lowness(turns, yard));
        }

        boolean isMet(int[] turns, int want) {
            return lightOver(turns, wantYards[want]) == wantLights[want];
        }

        int metBits(int[] turns) {
            int bits = 0;
            for (int want = 0; want < wants; want++) {
                if (isMet(turns, want)) {
                    bits |= 1 << want;
                }
            }
            return bits;
        }

        /** Whether the wants that hang on rope k, and on ropes of lower number at most, are met. */
        boolean meetsWantsEndingAt(int k, int[] turns) {
            for (int want = 0; want < wants; want++) {
                int yard = wantYards[want];
                if (Math.max(before[yard], behind[yard]) == k && !isMet(turns, want)) {
                    return false;
                }
            }
            return true;
        }

        int nights(int[] turns) {
            int all = 0;
            for (int yard = 0; yard < YARDS; yard++) {
                if (lightOver(turns, yard) == NIGHT) {
                    all++;
                }
            }
            return all;
        }
    }

    /** What hours and greasing change. */
    static final class Dusk {
        final int[] turns;
        final int[] kinds;
        int hours;
        int cost;

        Dusk() {
            turns = new int[MOST_ROPES];
            kinds = new int[MOST_ROPES];
            hours = 0;
            cost = 0;
        }

        void begin(Valley valley) {
            for (int k = 0; k < MOST_ROPES; k++) {
                turns[k] = valley.firstTurns[k];
                kinds[k] = valley.firstKinds[k];
            }
            hours = 0;
            cost = 0;
        }

        void become(Dusk other) {
            for (int k = 0; k < MOST_ROPES; k++) {
                turns[k] = other.turns[k];
                kinds[k] = other.kinds[k];
            }
            hours = other.hours;
            cost = other.cost;
        }

        /** An hour goes by; what it costs is left to the caller, as what is told ahead costs nothing. */
        void pass(Valley valley, int down, int up) {
            for (int k = 0; k < valley.ropes; k++) {
                int way = STILL;
                if ((down >> k & 1) != 0) {
                    way = DOWN;
                } else if ((up >> k & 1) != 0) {
                    way = UP;
                }
                turns[k] = turnsThen(turns[k], valley.paces[k], kinds[k], hours, way);
            }
            hours++;
        }

        void passAllDown(Valley valley) {
            pass(valley, valley.sets() - 1, 0);
        }
    }

    /** The latest dusks that were put by, so many at most: the oldest one gives way. */
    static final class Skies {
        private final Dusk[] rows;
        private int used;

        Skies(int most) {
            rows = new Dusk[Math.max(1, most)];
            for (int i = 0; i < rows.length; i++) {
                rows[i] = new Dusk();
            }
            used = 0;
        }

        int size() {
            return used;
        }

        boolean isFull() {
            return used >= rows.length;
        }

        void clear() {
            used = 0;
        }

        void push(Dusk dusk) {
            if (isFull()) {
                dropOldest();
            }
            rows[used].become(dusk);
            used++;
        }

        void popInto(Dusk dusk) {
            if (used > 0) {
                used--;
                dusk.become(rows[used]);
            }
        }

        private void dropOldest() {
            Dusk oldest = rows[0];
            for (int i = 1; i < rows.length; i++) {
                rows[i - 1] = rows[i];
            }
            rows[rows.length - 1] = oldest;
            used--;
        }
    }

    /** Hours told ahead of time, on a dusk of their own. */
    static final class Ahead {
        private final Dusk then;

        Ahead() {
            then = new Dusk();
        }

        int hoursUntil(Valley valley, Dusk now, int yard, int light) {
            then.become(now);
            for (int hours = 0; hours <= SOON_HOURS; hours++) {
                if (valley.lightOver(then.turns, yard) >= light) {
                    return hours;
                }
                then.passAllDown(valley);
            }
            return NONE;
        }

        int nightsIfGreased(Valley valley, Dusk now, int k, int hours) {
            then.become(now);
            then.kinds[k] = GREASED;
            for (int i = 0; i < hours; i++) {
                then.passAllDown(valley);
            }
            return valley.nights(then.turns);
        }

        Dusk drawn(Valley valley, Dusk now, int z, int hours) {
            then.become(now);
            // There are 2, 4, .. 32 sets, so that a mask tells the rest of a division by them.
            int mask = valley.sets() - 1;
            for (int i = 0; i < hours; i++) {
                long q = 7919L * z + 6151L * then.hours + 1;
                int draw = (int) (q * q % 65521);
                int down = draw & mask;
                int up = (draw / 32) & mask & ~down;
                then.pass(valley, down, up);
            }
            return then;
        }
    }

    /** Looks for the fewest rope hours by which all wants are met. */
    static final class Planner {
        int fewest;
        final int[] bestHours;
        private final int[] hours;
        private final int[] turns;
        /** By rope and hours of winding: the turns let out in the end. */
        private final int[][] outcomes;

        Planner() {
            fewest = NONE;
            bestHours = new int[MOST_ROPES];
            hours = new int[MOST_ROPES];
            turns = new int[MOST_ROPES];
            outcomes = new int[MOST_ROPES][PLAN_HOURS + 1];
        }

        void search(Valley valley, Dusk now) {
            fewest = NONE;
            for (int k = 0; k < valley.ropes; k++) {
                for (int n = 0; n <= PLAN_HOURS; n++) {
                    outcomes[k][n] = outcome(valley.paces[k], now, k, n);
                }
            }
            choose(this, valley, 0, 0);
        }

        private static int outcome(int pace, Dusk now, int k, int n) {
            int turns = now.turns[k];
            for (int i = 0; i < PLAN_HOURS; i++) {
                turns = turnsThen(turns, pace, now.kinds[k], now.hours + i, i < n ? DOWN : STILL);
            }
            return turns;
        }

        /** Ways are tried in their order, so that of several as good the first one stays. */
        private static void choose(Planner p, Valley valley, int k, int sum) {
            if (p.fewest != NONE && sum >= p.fewest) {
                return;
            }
            if (k >= valley.ropes) {
                p.fewest = sum;
                System.arraycopy(p.hours, 0, p.bestHours, 0, MOST_ROPES);
                return;
            }
            for (int n = 0; n <= PLAN_HOURS; n++) {
                p.hours[k] = n;
                p.turns[k] = p.outcomes[k][n];
                if (valley.meetsWantsEndingAt(k, p.turns)) {
                    choose(p, valley, k + 1, sum + n);
                }
            }
        }
    }

    /** Looks for the men to put at the ropes. */
    static final class Poster {
        int fewest;
        final int[] bestMen;
        private final int[] posted;

        Poster() {
            fewest = NONE;
            bestMen = new int[MOST_ROPES];
            posted = new int[MOST_ROPES];
        }

        void search(Valley valley) {
            fewest = NONE;
            if (valley.men >= valley.ropes) {
                choose(this, valley, 0, 0, 0);
            }
        }

        /** Ways are tried in their order, so that of several as good the first one stays. */
        private static void choose(Poster p, Valley valley, int k, int taken, int sum) {
            if (p.fewest != NONE && sum >= p.fewest) {
                return;
            }
            if (k >= valley.ropes) {
                p.fewest = sum;
                System.arraycopy(p.posted, 0, p.bestMen, 0, MOST_ROPES);
                return;
            }
            for (int man = 0; man < valley.men; man++) {
                if ((taken >> man & 1) == 0) {
                    p.posted[k] = man;
                    int way = Math.abs(valley.manYards[man] - valley.ropeYards[k]);
                    choose(p, valley, k + 1, taken | 1 << man, sum + way);
                }
            }
        }
    }

    /** What was seen, and which slips fit it. */
    static final class Clues {
        private final int[] yards;
        private final int[] values;
        private int used;
        /** 10 times the rope and the turns, in their order. */
        final int[] codes;
        int fitting;
        private final int[] trial;
        private final int[] tally;

        Clues() {
            yards = new int[MOST_SEEN];
            values = new int[MOST_SEEN];
            used = 0;
            codes = new int[MOST_ROPES * SLIP_SIZES];
            fitting = 0;
            trial = new int[MOST_ROPES];
            tally = new int[MOST_TURNS + 1];
        }

        int size() {
            return used;
        }

        boolean isFull() {
            return used >= MOST_SEEN;
        }

        void clear() {
            used = 0;
        }

        void add(int yard, int value) {
            if (used < MOST_SEEN) {
                yards[used] = yard;
                values[used] = value;
                used++;
            }
        }

        void findFitting(Valley valley, int[] turns) {
            fitting = 0;
            for (int code = 0; code < valley.ropes * SLIP_SIZES; code++) {
                slip(turns, code);
                if (fits(valley)) {
                    codes[fitting] = code;
                    fitting++;
                }
            }
        }

        /** Of the slips that fit, how many there are at most that let the sky be alike over a yard. */
        int mostAlike(Valley valley, int[] turns, int yard) {
            Arrays.fill(tally, 0);
            int most = 0;
            for (int i = 0; i < fitting; i++) {
                slip(turns, codes[i]);
                int low = within(valley.lowness(trial, yard));
                tally[low]++;
                most = Math.max(most, tally[low]);
            }
            return most;
        }

        private void slip(int[] turns, int code) {
            System.arraycopy(turns, 0, trial, 0, MOST_ROPES);
            int k = code / SLIP_SIZES;
            trial[k] = within(turns[k] + code % SLIP_SIZES);
        }

        private boolean fits(Valley valley) {
            for (int i = 0; i < used; i++) {
                if (valley.lowness(trial, yards[i]) != values[i]) {
                    return false;
                }
            }
            return true;
        }
    }

    /** In how many of 10 to the n ways a rope slips how often. */
    static final class Chances {
        private final int[] ways;

        Chances() {
            ways = new int[SLIP_HOURS + 1];
        }

        void spread(int hours, int tenths) {
            Arrays.fill(ways, 0);
            ways[0] = 1;
            for (int i = 0; i < hours; i++) {
                for (int slips = SLIP_HOURS; slips > 0; slips--) {
                    ways[slips] = ways[slips] * (TENTHS - tenths) + ways[slips - 1] * tenths;
                }
                ways[0] *= TENTHS - tenths;
            }
        }

        int waysToLight(int turns, int hours, int light) {
            int sum = 0;
            for (int slips = 0; slips <= hours && slips <= SLIP_HOURS; slips++) {
                if (lightAt(within(turns - slips)) == light) {
                    sum += ways[slips];
                }
            }
            return sum;
        }

        int allWays(int hours) {
            int product = 1;
            for (int i = 0; i < hours && i < SLIP_HOURS; i++) {
                product *= TENTHS;
            }
            return product;
        }
    }
}
