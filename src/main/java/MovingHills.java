/** Music for moving hills: ../shared/DOC.md says what each call promises. */
public final class MovingHills {

    public static final int BAD = -1, FULL = -2, FINDING = -3, STATE = -4, SPENT = -6, NONE = -9;

    private static final int NOTHING = 1, BEYOND = 2, UNLIKE = 3, NOUGHT = 4, SIZE = 5;
    private static final int LAST_FINDING = 5;

    private static final int ROWS = 6, ROW_MOST = 40;
    private static final int TEXTS = 4, TEXT_MOST = 80;
    private static final int MISSING = -1;

    private static final int SPOTS_MOST = 10, SPOTS_LEAST = 2, BANDS_MOST = 3, PROGRAMS_MOST = 27;
    private static final int EVENINGS_MOST = 60, KEPT = 3;
    private static final int RAISED_MOST = 99, SEASON_MOST = 40;
    private static final int REPEATS_MOST = 100, PLANNED_MOST = 3, TURNS_MOST = 6;

    private static final int BLANK = 32, GROUND = 103, FIGURE_0 = 48;
    private static final int BYTE_SHOWN = 1000, PAIR_BASE = 1000;

    private static final int SILENCE = 0, MARCH = 1, LULLABY = 2, TUNES = 3;

    private static final int BAND = 0, DRUM = 1, PIPE = 2, CHOIR = 3, BIG_DRUM = 4, ECHO = 5, KINDS = 6;

    // By KIND: its letter; which KINDS it IS (bits); the most inches it MOVES of
    // a SPOT; the least HEIGHT of a SPOT from which it MOVES any.
    private static final int[] LETTER = {98, 100, 112, 99, 116, 101};
    private static final int[] IS = {1, 3, 5, 9, 19, 37};
    private static final int[] MOST_INCHES = {1, 2, 1, 1, 2, 1};
    private static final int[] LEAST_HIGH = {1, 1, 2, 1, 1, 2};

    private static final long LOT_FACTOR = 48271L, LOT_MODULUS = 2147483647L;
    private static final int SEED_MOST = 2147483646;
    private static final long FROST_DIVISOR = 128L, SPOT_DIVISOR = 256L;

    private static final int BAND_TELLS = 5, COUNTS = 9;

    private final Shelf rows = new Shelf(ROWS, ROW_MOST);
    private final Shelf texts = new Shelf(TEXTS, TEXT_MOST);
    private final Reading reading = new Reading();
    private final Land here = new Land();
    private final Aside aside = new Aside(here);
    private final Plan plan = new Plan(here);
    private final Land[] keptLands = new Land[KEPT];
    private final boolean[] isKept = new boolean[KEPT];
    private final int[] answered = new int[LAST_FINDING + 1];
    private int latest = 0;
    private int told = 0;

    public MovingHills() {
    }

    // ---- 1 rows, texts, lands

    public int row(int r, int n) {
        return opened(rows, r, n, 0);
    }

    public int lay(int r, int i, int v) {
        if (!rows.names(r)) return BAD;
        int refusal = placeRefusal(rows, r, i);
        if (refusal != 0) return refusal;
        int was = rows.get(r, i);
        rows.set(r, i, v);
        return tell(1, was);
    }

    public int at(int r, int i) {
        if (!rows.names(r)) return BAD;
        int refusal = placeRefusal(rows, r, i);
        return refusal != 0 ? refusal : tell(1, rows.get(r, i));
    }

    public int tear(int r) {
        if (!rows.names(r)) return BAD;
        if (!rows.holds(r)) return find(NOTHING);
        rows.close(r);
        return 1;
    }

    public int copy(int r, int i, int to, int j, int n) {
        if (!rows.names(r) || !rows.names(to)) return BAD;
        if (n < 0) return find(SIZE);
        if (!rows.holds(r) || !rows.holds(to)) return find(NOTHING);
        if (!rows.spans(r, i, n) || !rows.spans(to, j, n)) return find(BEYOND);
        rows.transfer(r, i, to, j, n);
        return 1;
    }

    public int mean(int r) {
        if (!rows.names(r)) return BAD;
        if (!rows.holds(r)) return find(NOTHING);
        int n = rows.sizeOf(r);
        if (n <= 0) return find(NOUGHT);
        return tell(1, (int) (rows.sumOf(r) / n));
    }

    public int text(int t, int n) {
        return opened(texts, t, n, BLANK);
    }

    public int put(int t, int i, int v) {
        if (!texts.names(t)) return BAD;
        int refusal = placeRefusal(texts, t, i);
        if (refusal != 0) return refusal;
        int was = texts.get(t, i);
        texts.set(t, i, (byte) v);
        return was + BYTE_SHOWN;
    }

    public int fault(int t) {
        if (!texts.names(t)) return BAD;
        if (!texts.holds(t)) return find(NOTHING);
        return reading.read(texts, t);
    }

    public int land(int t) {
        if (!texts.names(t)) return BAD;
        if (!texts.holds(t)) return find(NOTHING);
        if (reading.read(texts, t) != NONE) return STATE;
        here.begin(reading);
        for (int k = 0; k < KEPT; k++) isKept[k] = false;
        return here.spots;
    }

    public int spot(int x) {
        if (!here.isSpot(x)) return BAD;
        return tell(here.isFrozen(x) ? 1 : 0, here.height[x]);
    }

    public int band(int i, int what) {
        if (!here.isBand(i) || what < 0 || what >= BAND_TELLS) return BAD;
        return tell(1, here.bandTells(i, what));
    }

    public int mark(int i, int kind) {
        if (!here.isBand(i) || kind <= BAND || kind >= KINDS) return BAD;
        if (!here.isOf(i, kind)) return find(UNLIKE);
        switch (kind) {
            case DRUM: return aside.inchesByTune(i, MARCH);
            case PIPE: return here.lowHeard(i);
            case CHOIR: return here.spots - 1 - here.place[i];
            case BIG_DRUM: return here.reach(i) - here.loudness[i];
            default: return aside.inchesByTune(i, LULLABY);
        }
    }

    public int frost(int set) {
        if (!here.isSpotSet(set)) return BAD;
        int was = here.frozen;
        here.frozen = set;
        return was;
    }

    public int move(int i, int x) {
        if (!here.isBand(i) || !here.isSpot(x)) return BAD;
        int was = here.place[i];
        here.place[i] = x;
        return was;
    }

    // ---- 2 evenings

    public int evening(int program) {
        if (!here.isProgram(program)) return BAD;
        if (here.spots == 0) return STATE;
        if (here.evenings >= EVENINGS_MOST) return FULL;
        return tell(here.playTruly(program), here.breathOf(program));
    }

    public int undo(int n) {
        if (n < 0 || n > here.evenings) return BAD;
        return here.takeBack(n);
    }

    public int heights(int r) {
        if (!rows.names(r)) return BAD;
        rows.open(r, here.spots, 0);
        for (int x = 0; x < here.spots; x++) rows.set(r, x, here.height[x]);
        return here.allInches();
    }

    public int keep(int k) {
        if (k < 0 || k >= KEPT) return BAD;
        if (here.spots == 0) return STATE;
        Land kept = keptLands[k];
        if (kept == null) {
            kept = new Land();
            keptLands[k] = kept;
        }
        kept.becomeLike(here);
        isKept[k] = true;
        return here.evenings;
    }

    public int on(int k) {
        if (k < 0 || k >= KEPT) return BAD;
        Land kept = keptLands[k];
        if (!isKept[k] || kept == null) return find(NOTHING);
        here.becomeLike(kept);
        return here.evenings;
    }

    // ---- 3 what comes of it (aside)

    public int behind(int program, int n, int x) {
        if (!here.isProgram(program) || n < 0 || n > EVENINGS_MOST || !here.isSpot(x)) return BAD;
        int inches = aside.repeat(program, n);
        return tell(aside.ground[x], inches);
    }

    public int rest(int program) {
        if (!here.isProgram(program)) return BAD;
        int n = aside.restsBehind(program);
        return n == NONE ? NONE : tell(n, here.highestOf(aside.ground));
    }

    public int round(int program) {
        if (!here.isProgram(program)) return BAD;
        return aside.comesRound(program);
    }

    public int highest(int x) {
        return here.isSpot(x) ? extreme(x, 1) : BAD;
    }

    public int lowest(int x) {
        return here.isSpot(x) ? extreme(x, -1) : BAD;
    }

    // ---- 4 what to play

    public int flat(int set, int r) {
        if (!here.isSpotSet(set) || !rows.names(r)) return BAD;
        if (here.spots == 0) return STATE;
        plan.aimFlat(set);
        for (int n = 0; n <= PLANNED_MOST; n++) {
            if (!plan.isFound(n)) continue;
            layPlan(r, n);
            return tell(n, plan.bestBreath);
        }
        return NONE;
    }

    public int raise(int x, int v, int n, int r) {
        if (!here.isSpot(x) || v < 0 || v > RAISED_MOST) return BAD;
        if (n < 0 || n > PLANNED_MOST || !rows.names(r)) return BAD;
        plan.aimHigh(x, v);
        if (!plan.isFound(n)) return NONE;
        layPlan(r, n);
        return plan.bestBreath;
    }

    public int keeps(int x) {
        if (!here.isSpot(x)) return BAD;
        int program = aside.loudestKeeping(x);
        return tell(here.breathOf(program), program);
    }

    public int rivals(int i, int j, int x, int n) {
        if (!here.isBand(i) || !here.isBand(j) || i == j) return BAD;
        if (!here.isSpot(x) || n < 0 || n > TURNS_MOST) return BAD;
        int high = aside.duel(i, j, x, n);
        return tell(high, aside.firstTune);
    }

    // ---- 5 by what has moved

    public int played(int r) {
        int refusal = groundRefusal(r);
        if (refusal != 0) return refusal;
        int fits = 0;
        int first = NONE;
        int programs = here.programs();
        for (int p = 0; p < programs; p++) {
            aside.repeat(p, 1);
            if (!isGroundOf(r, aside.ground)) continue;
            if (fits == 0) first = p;
            fits++;
        }
        return tell(fits, first);
    }

    public int could(int i, int r) {
        if (!here.isBand(i) || !rows.names(r)) return BAD;
        int refusal = fitRefusal(r);
        if (refusal != 0) return refusal;
        int tunes = 0;
        int programs = here.programs();
        for (int p = 0; p < programs; p++) {
            aside.repeat(p, 1);
            if (isGroundOf(r, aside.ground)) tunes |= 1 << here.tuneOf(p, i);
        }
        return tunes;
    }

    public int twice(int r) {
        int refusal = groundRefusal(r);
        if (refusal != 0) return refusal;
        int fits = 0;
        int first = NONE;
        int programs = here.programs();
        for (int p = 0; p < programs; p++) {
            aside.repeat(p, 1);
            for (int q = 0; q < programs; q++) {
                aside.playBehind(q);
                if (!isGroundOf(r, aside.later)) continue;
                if (fits == 0) first = PAIR_BASE * p + q;
                fits++;
            }
        }
        return tell(fits, first);
    }

    // ---- 6 valleys, borders

    public int valleys() {
        int many = 0;
        int length = 0;
        int longest = 0;
        for (int x = 0; x < here.spots; x++) {
            length = here.height[x] == 0 ? length + 1 : 0;
            if (length == 1) many++;
            longest = Math.max(longest, length);
        }
        return tell(many, longest);
    }

    public int top() {
        if (here.spots == 0) return STATE;
        int x = here.firstHighest(here.height, 0, here.spots - 1);
        return tell(x, here.height[x]);
    }

    public int border(int x, int y) {
        if (!isStretch(x, y)) return BAD;
        int b = here.firstHighest(here.height, x, y);
        return tell(b, here.height[b]);
    }

    public int shifts(int x, int y) {
        if (!isStretch(x, y)) return BAD;
        int now = here.firstHighest(here.height, x, y);
        int many = 0;
        int first = NONE;
        int programs = here.programs();
        for (int p = 0; p < programs; p++) {
            aside.repeat(p, 1);
            if (here.firstHighest(aside.ground, x, y) == now) continue;
            if (many == 0) first = p;
            many++;
        }
        return tell(many, first);
    }

    public int far(int r) {
        int refusal = groundRefusal(r);
        if (refusal != 0) return refusal;
        for (int x = 0; x < here.spots; x++) {
            if (rows.get(r, x) < 0) return find(UNLIKE);
        }
        if (rows.sumOf(r) != here.allInches()) return find(NOUGHT);
        // What lies too much on the left of a step between two SPOTS has to cross it.
        int surplus = 0;
        int way = 0;
        for (int x = 0; x < here.spots; x++) {
            surplus += here.height[x] - rows.get(r, x);
            way += Math.abs(surplus);
        }
        return way;
    }

    // ---- 7 lots

    public int season(int n, int seed) {
        if (n < 1 || n > SEASON_MOST || seed < 1 || seed > SEED_MOST) return BAD;
        int programs = here.programs();
        if (here.spots == 0 || programs < 1) return STATE;
        if (here.evenings + n > EVENINGS_MOST) return FULL;
        long lot = seed;
        int inches = 0;
        for (int e = 0; e < n; e++) {
            lot = LOT_FACTOR * lot % LOT_MODULUS;
            here.frozen = frostByLot(lot);
            inches += here.playTruly((int) (lot % programs));
        }
        return inches;
    }

    // ---- 8 what is told

    public int asked() {
        return told;
    }

    public long upper() {
        int all = here.allInches();
        if (all == 0) return 0;
        int part = here.highestOf(here.height);
        return part / commonDivisor(part, all);
    }

    public long lower() {
        int all = here.allInches();
        if (all == 0) return 1;
        return all / commonDivisor(here.highestOf(here.height), all);
    }

    public int count(int what) {
        switch (what) {
            case 0: return here.spots;
            case 1: return here.bands;
            case 2: return here.evenings;
            case 3: return here.spots == 0 ? 0 : here.programs();
            case 4: return Integer.bitCount(here.frozen);
            case 5: return here.drums();
            case 6: return rows.held();
            case 7: return texts.held();
            case 8: return keptNow();
            default: return BAD;
        }
    }

    public int finding() {
        return latest;
    }

    public int findings(int f) {
        if (f < NOTHING || f > LAST_FINDING) return BAD;
        return answered[f];
    }

    public long digest() {
        long h = 17;
        for (int what = 0; what < COUNTS; what++) h = 31 * h + count(what);
        h = here.mixedInto(h);
        for (int k = 0; k < KEPT; k++) h = 31 * h + keptEvenings(k);
        return texts.mixedInto(rows.mixedInto(h));
    }

    // ---- what the calls share

    private int tell(int answer, int asked) {
        told = asked;
        return answer;
    }

    private int find(int f) {
        if (f >= NOTHING && f <= LAST_FINDING) {
            latest = f;
            answered[f]++;
        }
        return FINDING;
    }

    private int opened(Shelf shelf, int r, int n, int filling) {
        if (!shelf.names(r) || n > shelf.most) return BAD;
        if (n < 0) return find(SIZE);
        shelf.open(r, n, filling);
        return n;
    }

    /** Why there is no place i in row r: a refusal, or 0. */
    private int placeRefusal(Shelf shelf, int r, int i) {
        if (!shelf.holds(r)) return find(NOTHING);
        return shelf.reaches(r, i) ? 0 : find(BEYOND);
    }

    /** Why row r can't be asked about as ground: a refusal, or 0. */
    private int groundRefusal(int r) {
        if (!rows.names(r)) return BAD;
        return here.spots == 0 ? STATE : fitRefusal(r);
    }

    /** Why row r can't tell the HEIGHTS of all SPOTS: a refusal, or 0. */
    private int fitRefusal(int r) {
        if (!rows.holds(r)) return find(NOTHING);
        return rows.sizeOf(r) == here.spots ? 0 : find(SIZE);
    }

    private boolean isGroundOf(int r, int[] ground) {
        for (int x = 0; x < here.spots; x++) {
            if (rows.get(r, x) != ground[x]) return false;
        }
        return true;
    }

    private boolean isStretch(int x, int y) {
        return here.isSpot(x) && here.isSpot(y) && x < y;
    }

    /** The first PROGRAM that makes a SPOT highest (way 1) or lowest (way -1). */
    private int extreme(int x, int way) {
        int best = 0;
        int bestHigh = here.height[x];
        int programs = here.programs();
        for (int p = 1; p < programs; p++) {
            aside.repeat(p, 1);
            if (way * aside.ground[x] <= way * bestHigh) continue;
            best = p;
            bestHigh = aside.ground[x];
        }
        return tell(best, bestHigh);
    }

    private void layPlan(int r, int n) {
        rows.open(r, n, 0);
        for (int e = 0; e < n && e < PLANNED_MOST; e++) rows.set(r, e, plan.best[e]);
    }

    private int frostByLot(long lot) {
        if (here.spots == 0 || lot / FROST_DIVISOR % 2 == 0) return 0;
        return 1 << (int) (lot / SPOT_DIVISOR % here.spots);
    }

    private int keptNow() {
        int many = 0;
        for (int k = 0; k < KEPT; k++) {
            if (isKept[k]) many++;
        }
        return many;
    }

    private int keptEvenings(int k) {
        if (k < 0 || k >= KEPT || !isKept[k]) return MISSING;
        Land kept = keptLands[k];
        return kept == null ? MISSING : kept.evenings;
    }

    /** Of two numbers not below 0; never 0, so that it can divide. */
    private static int commonDivisor(int a, int b) {
        int x = a;
        int y = b;
        for (int step = 0; step < 64 && y != 0; step++) {
            int left = x % y;
            x = y;
            y = left;
        }
        return x == 0 ? 1 : x;
    }

    /** Rows of numbers in numbered places, each there or missing. */
    private static final class Shelf {
        final int most;
        private final int[][] cells;
        private final int[] sizes;

        Shelf(int places, int most) {
            this.most = most;
            cells = new int[places][most];
            sizes = new int[places];
            for (int r = 0; r < places; r++) sizes[r] = MISSING;
        }

        boolean names(int r) {
            return r >= 0 && r < sizes.length;
        }

        boolean holds(int r) {
            return sizeOf(r) >= 0;
        }

        int sizeOf(int r) {
            return r >= 0 && r < sizes.length ? sizes[r] : MISSING;
        }

        boolean reaches(int r, int i) {
            return i >= 0 && i < sizeOf(r);
        }

        /** Whether n places from i on are there; no sum that could wrap round. */
        boolean spans(int r, int i, int n) {
            int size = sizeOf(r);
            return i >= 0 && n >= 0 && n <= size && i <= size - n;
        }

        int get(int r, int i) {
            return reaches(r, i) ? cells[r][i] : 0;
        }

        void set(int r, int i, int v) {
            if (reaches(r, i)) cells[r][i] = v;
        }

        void open(int r, int n, int filling) {
            if (!names(r) || n < 0 || n > most) return;
            sizes[r] = n;
            for (int i = 0; i < n; i++) cells[r][i] = filling;
        }

        void close(int r) {
            if (names(r)) sizes[r] = MISSING;
        }

        void transfer(int r, int i, int to, int j, int n) {
            if (spans(r, i, n) && spans(to, j, n)) System.arraycopy(cells[r], i, cells[to], j, n);
        }

        long sumOf(int r) {
            long sum = 0;
            int size = sizeOf(r);
            for (int i = 0; i < size; i++) sum += cells[r][i];
            return sum;
        }

        int held() {
            int many = 0;
            for (int r = 0; r < sizes.length; r++) {
                if (sizes[r] >= 0) many++;
            }
            return many;
        }

        long mixedInto(long h) {
            long mixed = h;
            for (int r = 0; r < sizes.length; r++) {
                mixed = 31 * mixed + sizes[r];
                for (int i = 0; i < sizes[r]; i++) mixed = 31 * mixed + cells[r][i];
            }
            return mixed;
        }
    }

    /** What a TEXT says of a LAND, up to its FAULT if there is one. */
    private static final class Reading {
        final int[] height = new int[SPOTS_MOST];
        final int[] kind = new int[BANDS_MOST];
        final int[] place = new int[BANDS_MOST];
        final int[] loudness = new int[BANDS_MOST];
        int spots = 0;
        int bands = 0;

        /** The FAULT of a TEXT, or NONE. */
        int read(Shelf texts, int t) {
            spots = 0;
            bands = 0;
            int size = texts.sizeOf(t);
            int i = behindBlanks(texts, t, 0);
            if (i >= size || texts.get(t, i) != GROUND) return i;
            i = behindHeights(texts, t, i + 1);
            if (spots < SPOTS_LEAST) return i;
            for (int item = 0; item <= BANDS_MOST; item++) {
                i = behindBlanks(texts, t, i);
                if (i >= size) return NONE;
                int fault = bandFault(texts, t, i);
                if (fault != NONE) return fault;
                i += 3;
            }
            return i;
        }

        private int behindBlanks(Shelf texts, int t, int from) {
            int i = from;
            while (i < texts.sizeOf(t) && texts.get(t, i) == BLANK) i++;
            return i;
        }

        /** Stops ahead of an eleventh figure: no BAND's letter, so a FAULT there. */
        private int behindHeights(Shelf texts, int t, int from) {
            int i = from;
            while (spots < SPOTS_MOST && figureAt(texts, t, i) >= 0) {
                height[spots] = figureAt(texts, t, i);
                spots++;
                i++;
            }
            return i;
        }

        /** The FAULT of a BAND that begins at i, or NONE: then it is added. */
        private int bandFault(Shelf texts, int t, int i) {
            int itsKind = kindOf(texts.get(t, i));
            if (itsKind < 0 || bands >= BANDS_MOST) return i;
            int x = figureAt(texts, t, i + 1);
            if (x < 0 || x >= spots) return i + 1;
            int loud = figureAt(texts, t, i + 2);
            if (loud < 1) return i + 2;
            kind[bands] = itsKind;
            place[bands] = x;
            loudness[bands] = loud;
            bands++;
            return NONE;
        }

        private static int figureAt(Shelf texts, int t, int i) {
            int figure = texts.reaches(t, i) ? texts.get(t, i) - FIGURE_0 : -1;
            return figure >= 0 && figure <= 9 ? figure : -1;
        }

        private static int kindOf(int letter) {
            for (int k = 0; k < KINDS; k++) {
                if (LETTER[k] == letter) return k;
            }
            return -1;
        }
    }

    /** Ground, FROST, BANDS and the EVENINGS that were truly played. */
    private static final class Land {
        int spots = 0;
        int bands = 0;
        int frozen = 0;
        int evenings = 0;
        final int[] height = new int[SPOTS_MOST];
        final int[] place = new int[BANDS_MOST];
        final int[] loudness = new int[BANDS_MOST];
        private final int[] kind = new int[BANDS_MOST];
        private final int[] moved = new int[BANDS_MOST];
        private final int[] playedProgram = new int[EVENINGS_MOST];
        // As it was ahead of each EVENING: undoing must not depend on FROST and
        // places of BANDS, which may have changed since.
        private final int[] heightAhead = new int[EVENINGS_MOST * SPOTS_MOST];
        private final int[] movedAhead = new int[EVENINGS_MOST * BANDS_MOST];

        void begin(Reading from) {
            spots = from.spots;
            bands = from.bands;
            frozen = 0;
            evenings = 0;
            System.arraycopy(from.height, 0, height, 0, SPOTS_MOST);
            System.arraycopy(from.kind, 0, kind, 0, BANDS_MOST);
            System.arraycopy(from.place, 0, place, 0, BANDS_MOST);
            System.arraycopy(from.loudness, 0, loudness, 0, BANDS_MOST);
            for (int i = 0; i < BANDS_MOST; i++) moved[i] = 0;
        }

        void becomeLike(Land other) {
            spots = other.spots;
            bands = other.bands;
            frozen = other.frozen;
            evenings = other.evenings;
            System.arraycopy(other.height, 0, height, 0, SPOTS_MOST);
            System.arraycopy(other.kind, 0, kind, 0, BANDS_MOST);
            System.arraycopy(other.place, 0, place, 0, BANDS_MOST);
            System.arraycopy(other.loudness, 0, loudness, 0, BANDS_MOST);
            System.arraycopy(other.moved, 0, moved, 0, BANDS_MOST);
            System.arraycopy(other.playedProgram, 0, playedProgram, 0, EVENINGS_MOST);
            System.arraycopy(other.heightAhead, 0, heightAhead, 0, EVENINGS_MOST * SPOTS_MOST);
            System.arraycopy(other.movedAhead, 0, movedAhead, 0, EVENINGS_MOST * BANDS_MOST);
        }

        boolean isSpot(int x) {
            return x >= 0 && x < spots;
        }

        boolean isBand(int i) {
            return i >= 0 && i < bands;
        }

        boolean isProgram(int p) {
            return p >= 0 && p < programs();
        }

        boolean isSpotSet(int set) {
            return set >= 0 && set < 1 << spots;
        }

        boolean isFrozen(int x) {
            return (frozen >> x & 1) == 1;
        }

        boolean isOf(int i, int someKind) {
            return isBand(i) && (IS[kind[i]] >> someKind & 1) == 1;
        }

        /** Never below 1, without SPOTS too: then silence alone. */
        int programs() {
            int many = 1;
            for (int i = 0; i < bands; i++) many *= TUNES;
            return many;
        }

        int tuneOf(int program, int i) {
            int figures = program;
            for (int b = 0; b < i; b++) figures /= TUNES;
            return figures % TUNES;
        }

        int breathOf(int program) {
            int breath = 0;
            for (int i = 0; i < bands; i++) {
                if (tuneOf(program, i) != SILENCE) breath += loudness[i];
            }
            return breath;
        }

        int drums() {
            int many = 0;
            for (int i = 0; i < bands; i++) {
                if (isOf(i, DRUM)) many++;
            }
            return many;
        }

        int reach(int i) {
            if (!isBand(i)) return 0;
            return kind[i] == BIG_DRUM ? 2 * loudness[i] : loudness[i];
        }

        boolean isHeard(int i, int x) {
            return isBand(i) && x != place[i] && Math.abs(x - place[i]) <= reach(i);
        }

        int heardOn(int i) {
            int set = 0;
            for (int x = 0; x < spots; x++) {
                if (isHeard(i, x)) set |= 1 << x;
            }
            return set;
        }

        int lowHeard(int i) {
            int many = 0;
            for (int x = 0; x < spots; x++) {
                if (isHeard(i, x) && height[x] < LEAST_HIGH[PIPE]) many++;
            }
            return many;
        }

        int bandTells(int i, int what) {
            if (!isBand(i)) return 0;
            switch (what) {
                case 0: return kind[i];
                case 1: return place[i];
                case 2: return loudness[i];
                case 3: return heardOn(i);
                default: return moved[i];
            }
        }

        int allInches() {
            int all = 0;
            for (int x = 0; x < spots; x++) all += height[x];
            return all;
        }

        int firstHighest(int[] ground, int from, int to) {
            int best = from;
            for (int x = from + 1; x <= to && isSpot(x); x++) {
                if (ground[x] > ground[best]) best = x;
            }
            return best;
        }

        /** 0 without SPOTS. */
        int highestOf(int[] ground) {
            return spots == 0 ? 0 : ground[firstHighest(ground, 0, spots - 1)];
        }

        /** How many inches of a SPOT so high a BAND MOVES that is HEARD there. */
        int inchesFrom(int i, int x, int high) {
            int k = kind[i];
            if ((frozen >> x & 1) == 1 || k == CHOIR && x < place[i]) return 0;
            if (high < LEAST_HIGH[k]) return 0;
            return high < MOST_INCHES[k] ? high : MOST_INCHES[k];
        }

        private int shift(int[] ground, int i, int from, int way) {
            int to = from + way;
            if (!isSpot(from) || !isSpot(to)) return 0;
            int inches = inchesFrom(i, from, ground[from]);
            ground[from] -= inches;
            ground[to] += inches;
            return inches;
        }

        /** One BAND's TUNE on some ground: how many inches are MOVED. */
        int playTune(int[] ground, int i, int tune) {
            if (!isBand(i) || tune == SILENCE) return 0;
            int distance = Math.min(reach(i), spots - 1);
            int inches = 0;
            if ((tune == MARCH) != (kind[i] == ECHO)) {
                for (int d = 1; d <= distance; d++) {
                    inches += shift(ground, i, place[i] - d, 1) + shift(ground, i, place[i] + d, -1);
                }
            } else {
                for (int d = distance; d >= 1; d--) {
                    inches += shift(ground, i, place[i] - d, -1) + shift(ground, i, place[i] + d, 1);
                }
            }
            return inches;
        }

        /** An EVENING on some ground, without a trace in the LAND. */
        int playAside(int[] ground, int program) {
            int inches = 0;
            int figures = program;
            for (int i = 0; i < bands; i++) {
                inches += playTune(ground, i, figures % TUNES);
                figures /= TUNES;
            }
            return inches;
        }

        int playTruly(int program) {
            if (evenings >= EVENINGS_MOST) return 0;
            System.arraycopy(height, 0, heightAhead, evenings * SPOTS_MOST, SPOTS_MOST);
            System.arraycopy(moved, 0, movedAhead, evenings * BANDS_MOST, BANDS_MOST);
            playedProgram[evenings] = program;
            evenings++;
            int all = 0;
            for (int i = 0; i < bands; i++) {
                int inches = playTune(height, i, tuneOf(program, i));
                moved[i] += inches;
                all += inches;
            }
            return all;
        }

        int takeBack(int n) {
            if (n < 0 || n >= evenings || n >= EVENINGS_MOST) return 0;
            System.arraycopy(heightAhead, n * SPOTS_MOST, height, 0, SPOTS_MOST);
            System.arraycopy(movedAhead, n * BANDS_MOST, moved, 0, BANDS_MOST);
            int many = evenings - n;
            evenings = n;
            return many;
        }

        long mixedInto(long h) {
            long mixed = h;
            for (int x = 0; x < spots; x++) {
                mixed = 31 * mixed + height[x];
                mixed = 31 * mixed + (isFrozen(x) ? 1 : 0);
            }
            for (int i = 0; i < bands; i++) {
                for (int what = 0; what < BAND_TELLS; what++) mixed = 31 * mixed + bandTells(i, what);
            }
            for (int e = 0; e < evenings; e++) mixed = 31 * mixed + playedProgram[e];
            return mixed;
        }
    }

    /** EVENINGS that are only thought of, on ground of their own. */
    private static final class Aside {
        private final Land land;
        final int[] ground = new int[SPOTS_MOST];
        final int[] later = new int[SPOTS_MOST];
        private final int[][] turns = new int[TURNS_MOST + 1][SPOTS_MOST];
        private int wantsHigh = 0;
        private int wantsLow = 0;
        private int wantedSpot = 0;
        int firstTune = SILENCE;

        Aside(Land land) {
            this.land = land;
        }

        private void startFromNow() {
            System.arraycopy(land.height, 0, ground, 0, SPOTS_MOST);
        }

        int inchesByTune(int i, int tune) {
            startFromNow();
            return land.playTune(ground, i, tune);
        }

        /** The ground behind n EVENINGS from now: how many inches were MOVED. */
        int repeat(int program, int n) {
            startFromNow();
            int inches = 0;
            for (int e = 0; e < n; e++) inches += land.playAside(ground, program);
            return inches;
        }

        /** The later ground is that behind one more EVENING. */
        void playBehind(int program) {
            System.arraycopy(ground, 0, later, 0, SPOTS_MOST);
            land.playAside(later, program);
        }

        /** How many EVENINGS till it rests, or NONE; the ground is the one at rest. */
        int restsBehind(int program) {
            startFromNow();
            for (int n = 0; n <= REPEATS_MOST; n++) {
                playBehind(program);
                if (isSame(ground, later)) return n;
                System.arraycopy(later, 0, ground, 0, SPOTS_MOST);
            }
            return NONE;
        }

        int comesRound(int program) {
            startFromNow();
            for (int n = 1; n <= REPEATS_MOST; n++) {
                land.playAside(ground, program);
                if (isSame(ground, land.height)) return n;
            }
            return NONE;
        }

        private boolean isSame(int[] one, int[] other) {
            for (int x = 0; x < land.spots; x++) {
                if (one[x] != other[x]) return false;
            }
            return true;
        }

        /** Silence keeps every SPOT, so there always is one. */
        int loudestKeeping(int x) {
            int best = 0;
            int programs = land.programs();
            for (int p = 1; p < programs; p++) {
                if (land.breathOf(p) <= land.breathOf(best)) continue;
                repeat(p, 1);
                if (ground[x] == land.height[x]) best = p;
            }
            return best;
        }

        /** How high SPOT x is behind n turns of two rivals; firstTune is set. */
        int duel(int high, int low, int x, int n) {
            wantsHigh = high;
            wantsLow = low;
            wantedSpot = x;
            firstTune = SILENCE;
            System.arraycopy(land.height, 0, turns[0], 0, SPOTS_MOST);
            return bestTurn(0, n);
        }

        private int bestTurn(int turn, int n) {
            if (turn >= n || turn >= TURNS_MOST) return turns[turn][wantedSpot];
            boolean up = turn % 2 == 0;
            int best = 0;
            for (int tune = 0; tune < TUNES; tune++) {
                System.arraycopy(turns[turn], 0, turns[turn + 1], 0, SPOTS_MOST);
                land.playTune(turns[turn + 1], up ? wantsHigh : wantsLow, tune);
                int high = bestTurn(turn + 1, n);
                if (tune == 0 || (up ? high > best : high < best)) {
                    best = high;
                    if (turn == 0) firstTune = tune;
                }
            }
            return best;
        }
    }

    /** Seeks the EVENINGS of least BREATH that reach a goal. */
    private static final class Plan {
        private static final int NO_BREATH_YET = 1000;
        private static final int HIGH_ENOUGH = 2;

        private final Land land;
        private final int[][] stages = new int[PLANNED_MOST + 1][SPOTS_MOST];
        private final int[] breaths = new int[PROGRAMS_MOST];
        private final int[] tried = new int[PLANNED_MOST];
        private final int[] mostTaken = new int[SPOTS_MOST];
        final int[] best = new int[PLANNED_MOST];
        int bestBreath = NO_BREATH_YET;
        private boolean flattening = false;
        private int goalSet = 0;
        private int goalSpot = 0;
        private int goalHeight = 0;
        private int mostGained = 0;

        Plan(Land land) {
            this.land = land;
        }

        /** The goal: all SPOTS of a set are 0 high. */
        void aimFlat(int set) {
            flattening = true;
            goalSet = set;
            for (int x = 0; x < land.spots; x++) mostTaken[x] = mostTakenFrom(x);
        }

        /** The goal: a SPOT is no lower than v. */
        void aimHigh(int x, int v) {
            flattening = false;
            goalSpot = x;
            goalHeight = v;
            mostGained = mostGainedBy(x);
        }

        /** Whether n EVENINGS can reach the goal; then best and bestBreath tell how. */
        boolean isFound(int n) {
            bestBreath = NO_BREATH_YET;
            int programs = land.programs();
            for (int p = 0; p < programs && p < PROGRAMS_MOST; p++) breaths[p] = land.breathOf(p);
            System.arraycopy(land.height, 0, stages[0], 0, SPOTS_MOST);
            seek(0, n, 0);
            return bestBreath != NO_BREATH_YET;
        }

        /** Goes through all PROGRAMS in order: an equal plan that comes later is not better. */
        private void seek(int done, int n, int breath) {
            if (done > n || n > PLANNED_MOST) return;
            if (breath >= bestBreath || !isWithinReach(stages[done], n - done)) return;
            if (done == n) {
                bestBreath = breath;
                System.arraycopy(tried, 0, best, 0, PLANNED_MOST);
                return;
            }
            int programs = land.programs();
            for (int p = 0; p < programs && p < PROGRAMS_MOST; p++) {
                int breathThen = breath + breaths[p];
                if (breathThen >= bestBreath) continue;
                System.arraycopy(stages[done], 0, stages[done + 1], 0, SPOTS_MOST);
                if (!isPlayedForUse(stages[done + 1], p)) continue;
                tried[done] = p;
                seek(done + 1, n, breathThen);
            }
        }

        /** A BAND that MOVES nothing could as well be silent, with less BREATH. */
        private boolean isPlayedForUse(int[] ground, int program) {
            int figures = program;
            for (int i = 0; i < land.bands; i++) {
                int tune = figures % TUNES;
                if (tune != SILENCE && land.playTune(ground, i, tune) == 0) return false;
                figures /= TUNES;
            }
            return true;
        }

        /** False only if the goal can't be reached by so many more; by none: if it isn't reached. */
        private boolean isWithinReach(int[] ground, int left) {
            if (!flattening) return ground[goalSpot] + mostGained * left >= goalHeight;
            for (int x = 0; x < land.spots; x++) {
                if ((goalSet >> x & 1) == 1 && ground[x] > mostTaken[x] * left) return false;
            }
            return true;
        }

        private int mostTakenFrom(int x) {
            int most = 0;
            for (int i = 0; i < land.bands; i++) most += mostTakenBy(i, x);
            return most;
        }

        private int mostTakenBy(int i, int x) {
            return land.isSpot(x) && land.isHeard(i, x) ? land.inchesFrom(i, x, HIGH_ENOUGH) : 0;
        }

        /** On one side of a BAND all goes one way, so a SPOT there gains from one neighbour alone. */
        private int mostGainedBy(int x) {
            int most = 0;
            for (int i = 0; i < land.bands; i++) {
                int left = mostTakenBy(i, x - 1);
                int right = mostTakenBy(i, x + 1);
                most += x == land.place[i] ? left + right : Math.max(left, right);
            }
            return most;
        }
    }
}
