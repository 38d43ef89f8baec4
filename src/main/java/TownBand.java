/** Beasts, robbers, a tower, beds and a scout, as ../shared/DOC.md promises. */
public final class TownBand {
    public static final int BAD = -1, STATE = -2, FULL = -3, NONE = -4;

    private static final int MOST_BEASTS = 5;
    private static final int MOST_ROBBERS = 4;
    private static final int MOST_SEEN = 6;
    private static final int MOST_SCOUT = 40;
    private static final int FIRST_SCOUT = 5;
    private static final int TAPE_BYTES = 160;
    private static final int IMAGES = 2;
    private static final int SHEETS = 4;
    private static final int LANES = 3;
    private static final int MOST_CELLS = 40;
    private static final int MOST_READ = 20;
    private static final int MOST_DRIFTS = 60;

    /** What a search through all towers looks for. */
    private static final int AIM_FLEE = 0, AIM_ALL_FLEE = 1, AIM_LOUD = 2;

    /** What the machine would find in a sheet. */
    private static final int NO_FAULT = 0, NULL_FAULT = 1, INDEX_FAULT = 2, CAST_FAULT = 3, SIZE_FAULT = 4;

    private final Band band = new Band();
    private final Tape tape = new Tape();
    private final Seen seen = new Seen();
    private final Towers search = new Towers();
    private final Orders orders = new Orders();
    private final Band[] images = new Band[IMAGES];
    private final boolean[] kept = new boolean[IMAGES];
    private final Sheet[] sheets = new Sheet[SHEETS];
    private final int[] throats = new int[MOST_BEASTS];
    private int tear = NO_FAULT;

    public TownBand() {
        for (int k = 0; k < IMAGES; k++) {
            images[k] = new Band();
        }
        for (int k = 0; k < SHEETS; k++) {
            sheets[k] = new Sheet();
        }
    }

    // ---- the text, what there is

    public int feed(int c) {
        if (!within(c, 0, 127)) {
            return BAD;
        }
        if (tape.length >= TAPE_BYTES) {
            return FULL;
        }
        tape.bytes[tape.length] = c;
        tape.length++;
        return tape.length;
    }

    public int end(int n) {
        if (!within(n, 0, tape.length)) {
            return BAD;
        }
        int had = tape.length;
        tape.length = n;
        return had;
    }

    public int text() {
        int answer = tape.tellAll();
        tape.length = 0;
        if (tape.flaw == 0) {
            band.copyFrom(tape.draft);
            seen.size = 0;
            for (int k = 0; k < IMAGES; k++) {
                kept[k] = false;
            }
        }
        return answer;
    }

    public int fault() {
        return tape.flaw;
    }

    public int rule(int what) {
        switch (what) {
            case 0:
                return band.beasts;
            case 1:
                return band.robbers;
            case 2:
                return band.height;
            case 3:
                return band.nerve;
            case 4:
                return band.towerBits();
            default:
                return BAD;
        }
    }

    public int beast(int b, int what) {
        if (!band.hasBeast(b)) {
            return BAD;
        }
        switch (what) {
            case 0:
                return band.kinds[b];
            case 1:
                return band.weights[b];
            case 2:
                return band.voices[b];
            case 3:
                return band.bears(b);
            case 4:
                return band.hurts(b);
            case 5:
                return placeIn(band.tower, band.height, b);
            case 6:
                return placeIn(band.bedRow, band.beasts, b);
            default:
                return BAD;
        }
    }

    public int robber(int r) {
        return band.hasRobber(r) ? band.courages[r] : BAD;
    }

    public int at(int row, int i) {
        if (row == 0) {
            return within(i, 0, band.height - 1) ? band.tower[i] : BAD;
        }
        if (row == 1) {
            return within(i, 0, band.beasts - 1) ? band.bedRow[i] : BAD;
        }
        return BAD;
    }

    // ---- what is changed

    public int alter(int b, int what, int v) {
        if (!band.hasBeast(b)) {
            return BAD;
        }
        switch (what) {
            case 0:
                return within(v, 0, 3) ? change(band.kinds, b, v) : BAD;
            case 1:
                return within(v, 1, 9) ? change(band.weights, b, v) : BAD;
            case 2:
                return within(v, 0, 9) ? change(band.voices, b, v) : BAD;
            default:
                return BAD;
        }
    }

    private int change(int[] trait, int b, int v) {
        int was = trait[b];
        trait[b] = v;
        if (!band.stands()) {
            trait[b] = was;
            return STATE;
        }
        return was;
    }

    public int steel(int r, int v) {
        if (!band.hasRobber(r) || !within(v, 0, 99)) {
            return BAD;
        }
        int was = band.courages[r];
        band.courages[r] = v;
        return was;
    }

    public int scout(int v) {
        if (!within(v, 0, MOST_SCOUT)) {
            return BAD;
        }
        int was = band.nerve;
        band.nerve = v;
        return was;
    }

    public int climb(int b) {
        return mount(b);
    }

    /** Puts a beast on top; shared by climb() and read(). */
    private int mount(int b) {
        if (!band.hasBeast(b)) {
            return BAD;
        }
        if (!band.canClimb(b)) {
            return STATE;
        }
        band.tower[band.height] = b;
        band.height++;
        return band.height;
    }

    public int down(int n) {
        if (!within(n, 0, band.height)) {
            return BAD;
        }
        int had = band.height;
        band.height = n;
        return had;
    }

    public int swap(int i, int j) {
        int last = band.beasts - 1;
        if (!within(i, 0, last) || !within(j, 0, last) || i == j) {
            return BAD;
        }
        exchange(band.bedRow, i, j);
        return band.bedRow[i];
    }

    // ---- the noise

    public int noise() {
        return band.noiseBy(band.tower, band.height, band.voices);
    }

    public int flight(int what) {
        if (!within(what, 0, 1)) {
            return BAD;
        }
        int fled = band.fledBits(band.noiseBy(band.tower, band.height, band.voices));
        return what == 0 ? fled : Integer.bitCount(fled);
    }

    public int free() {
        int bits = 0;
        for (int b = 0; b < band.beasts; b++) {
            if (band.canClimb(b)) {
                bits |= 1 << b;
            }
        }
        return bits;
    }

    public int need() {
        int least = 0;
        for (int r = 0; r < band.robbers; r++) {
            least = Math.max(least, band.courages[r] - 2 * r + 1);
        }
        return least;
    }

    // ---- towers

    public int best(int what) {
        if (!within(what, 0, 2) && !isPlace(what)) {
            return BAD;
        }
        search.walk(band, AIM_FLEE);
        switch (what) {
            case 0:
                return search.foundScore;
            case 1:
                return search.foundNoise;
            case 2:
                return search.foundSize;
            default:
                return search.foundAt(what - 10);
        }
    }

    public int few(int what) {
        if (!within(what, 0, 1) && !isPlace(what)) {
            return BAD;
        }
        search.walk(band, AIM_ALL_FLEE);
        if (search.foundScore == 0) {
            return NONE;
        }
        switch (what) {
            case 0:
                return search.foundSize;
            case 1:
                return search.foundNoise;
            default:
                return search.foundAt(what - 10);
        }
    }

    public int loud(int what) {
        if (!within(what, 0, 1) && !isPlace(what)) {
            return BAD;
        }
        search.walk(band, AIM_LOUD);
        switch (what) {
            case 0:
                return search.foundNoise;
            case 1:
                return search.foundSize;
            default:
                return search.foundAt(what - 10);
        }
    }

    /** Whether 10 and i asks for a place that some tower could have. */
    private static boolean isPlace(int what) {
        return within(what, 10, 10 + MOST_BEASTS - 1);
    }

    public int towers() {
        search.walk(band, AIM_LOUD);
        return search.total;
    }

    // ---- the scout

    public int tale(int what) {
        int met = band.metOn(band.bedRow);
        switch (what) {
            case 0:
                return band.hurtBehind(band.bedRow, met);
            case 1:
                return met;
            case 2:
                return 9 * band.hurtBehind(band.bedRow, met);
            default:
                return BAD;
        }
    }

    public int beds(int what) {
        if (what != 0 && !within(what, 10, 10 + band.beasts - 1)) {
            return BAD;
        }
        orders.seekWorst(band);
        return what == 0 ? orders.worstHurt : orders.first[what - 10];
    }

    public int brave() {
        int least = band.hurtBehind(band.bedRow, band.beasts - 1);
        return least <= MOST_SCOUT ? least : NONE;
    }

    // ---- shares

    public int value(int some) {
        if (!within(some, 0, (1 << band.beasts) - 1)) {
            return BAD;
        }
        search.walk(band, AIM_FLEE);
        return search.values[some];
    }

    public long share(int b, int what) {
        if (!band.hasBeast(b) || !within(what, 0, 1)) {
            return BAD;
        }
        search.walk(band, AIM_FLEE);
        long grown = 0;
        for (int some = 0; some < 1 << band.beasts; some++) {
            if ((some >> b & 1) == 0) {
                int ahead = Integer.bitCount(some);
                long ways = factorial(ahead) * factorial(band.beasts - 1 - ahead);
                grown += ways * (search.values[some | 1 << b] - search.values[some]);
            }
        }
        return partOf(grown, factorial(band.beasts), what);
    }

    // ---- hoarse ones

    public long mean(int v, int what) {
        if (!within(v, 0, 10) || !within(what, 0, 1)) {
            return BAD;
        }
        return partOf(hoarseSum(v, false), power(10, band.height), what);
    }

    public long luck(int v, int what) {
        if (!within(v, 0, 10) || !within(what, 0, 1)) {
            return BAD;
        }
        return partOf(hoarseSum(v, true), power(10, band.height), what);
    }

    /** Over all who may be hoarse, in parts of 10 to the tower's height: how many flee, or whether all do. */
    private long hoarseSum(int v, boolean allOnly) {
        long sum = 0;
        for (int hoarse = 0; hoarse < 1 << band.height; hoarse++) {
            silence(hoarse);
            int fled = Integer.bitCount(band.fledBits(band.noiseBy(band.tower, band.height, throats)));
            int silent = Integer.bitCount(hoarse);
            long odds = power(v, silent) * power(10 - v, band.height - silent);
            if (allOnly) {
                sum += fled == band.robbers ? odds : 0;
            } else {
                sum += odds * fled;
            }
        }
        return sum;
    }

    /** Voices as they are, but 0 at the tower's places that the bits name. */
    private void silence(int places) {
        System.arraycopy(band.voices, 0, throats, 0, MOST_BEASTS);
        for (int i = 0; i < band.height; i++) {
            if ((places >> i & 1) == 1) {
                throats[band.tower[i]] = 0;
            }
        }
    }

    // ---- who lay where

    public int see(int n, int h) {
        if (!within(n, 1, MOST_BEASTS) || !within(h, 0, 99)) {
            return BAD;
        }
        if (seen.size >= MOST_SEEN) {
            return FULL;
        }
        seen.behind[seen.size] = n;
        seen.hurt[seen.size] = h;
        seen.size++;
        return seen.size;
    }

    public int forget(int n) {
        if (!within(n, 0, seen.size)) {
            return BAD;
        }
        int had = seen.size;
        seen.size = n;
        return had;
    }

    public int fits(int what) {
        int last = band.beasts - 1;
        if (what != 0 && !within(what, 10, 10 + last) && !within(what, 20, 20 + last)) {
            return BAD;
        }
        orders.seekFitting(band, seen);
        if (what == 0) {
            return orders.fitting;
        }
        if (what < 20) {
            return orders.liers[what - 10];
        }
        return orders.fitting > 0 ? orders.first[what - 20] : NONE;
    }

    public int ask(int what) {
        if (!within(what, 0, 1)) {
            return BAD;
        }
        orders.seekFitting(band, seen);
        int left = orders.fitting;
        int behind = NONE;
        for (int n = 1; n <= band.beasts; n++) {
            int worst = orders.mostLeft(n);
            if (worst < left) {
                left = worst;
                behind = n;
            }
        }
        return what == 0 || behind == NONE ? behind : left;
    }

    // ---- by a seed

    public int drift(int seed, int n, int what) {
        if (!within(n, 1, MOST_DRIFTS) || !within(what, 0, 1)) {
            return BAD;
        }
        if (band.beasts == 0) {
            return STATE;
        }
        System.arraycopy(band.voices, 0, throats, 0, MOST_BEASTS);
        int now = seed;
        int fled = 0;
        int loudness = 0;
        for (int i = 0; i < n; i++) {
            now = nextSeed(now);
            int b = seedBits(now) % band.beasts;
            now = nextSeed(now);
            throats[b] = seedBits(now) % 10;
            loudness = band.noiseBy(band.tower, band.height, throats);
            fled += Integer.bitCount(band.fledBits(loudness));
        }
        return what == 0 ? fled : loudness;
    }

    private static int nextSeed(int seed) {
        return seed * 1103515245 + 12345;
    }

    private static int seedBits(int seed) {
        return seed >>> 16 & 0x7FFF;
    }

    // ---- images, sheets

    public int keep(int k) {
        if (!within(k, 0, IMAGES - 1)) {
            return BAD;
        }
        int was = kept[k] ? 1 : 0;
        images[k].copyFrom(band);
        kept[k] = true;
        return was;
    }

    public int back(int k) {
        if (!within(k, 0, IMAGES - 1)) {
            return BAD;
        }
        if (!kept[k]) {
            return STATE;
        }
        band.copyFrom(images[k]);
        return band.height;
    }

    public int sheet(int k, int lane, int n) {
        if (!within(k, 0, SHEETS - 1) || !within(lane, 0, LANES - 1) || n > MOST_CELLS) {
            return BAD;
        }
        if (n < 0) {
            return -10 - SIZE_FAULT;
        }
        sheets[k].renew(lane, n);
        return 1;
    }

    public int lay(int k, int i, int v) {
        if (!within(k, 0, SHEETS - 1)) {
            return BAD;
        }
        int found = sheets[k].faultAt(i);
        if (found != NO_FAULT) {
            return -10 - found;
        }
        sheets[k].put(i, v);
        return 1;
    }

    public int read(int k, int lane, int f, int n) {
        if (!within(k, 0, SHEETS - 1) || !within(lane, 0, LANES - 1) || !within(n, 0, MOST_READ)) {
            return BAD;
        }
        Sheet from = sheets[k];
        int before = band.height;
        // The machine can refuse only what is read of it: where n is 0, nothing is.
        int found = NO_FAULT;
        int climbed = 0;
        for (int i = 0; i < n && found == NO_FAULT; i++) {
            found = from.faultAs(lane, f + i);
            if (found == NO_FAULT) {
                if (mount(from.cells[f + i]) < 0) {
                    band.height = before;
                    return -20 - i;
                }
                climbed++;
            }
        }
        tear = found;
        return climbed;
    }

    public int torn() {
        return tear;
    }

    public int count(int what) {
        switch (what) {
            case 0:
                return seen.size;
            case 1:
                return (kept[0] ? 1 : 0) + (kept[1] ? 1 : 0);
            case 2:
                return tape.length;
            case 3:
                return sheets[0].lane == Sheet.NOTHING ? NONE : sheets[0].size;
            case 4:
                return sumOf(band.weights, band.beasts);
            case 5:
                return sumOf(band.courages, band.robbers);
            default:
                return BAD;
        }
    }

    // ---- numbers and rows

    private static boolean within(int n, int low, int high) {
        return n >= low && n <= high;
    }

    private static int placeIn(int[] row, int size, int b) {
        for (int i = 0; i < size; i++) {
            if (row[i] == b) {
                return i;
            }
        }
        return NONE;
    }

    private static int sumOf(int[] row, int size) {
        int sum = 0;
        for (int i = 0; i < size; i++) {
            sum += row[i];
        }
        return sum;
    }

    private static void exchange(int[] row, int i, int j) {
        int held = row[i];
        row[i] = row[j];
        row[j] = held;
    }

    private static void fillByOrder(int[] row) {
        for (int i = 0; i < row.length; i++) {
            row[i] = i;
        }
    }

    private static int factorial(int n) {
        int product = 1;
        for (int i = 2; i <= n; i++) {
            product *= i;
        }
        return product;
    }

    private static long power(int base, int times) {
        long product = 1;
        for (int i = 0; i < times; i++) {
            product *= base;
        }
        return product;
    }

    /** The numerator (what 0) or the denominator (1) of a fraction in lowest terms; both numbers are not below 0. */
    private static long partOf(long over, long under, int what) {
        long divisor = over;
        long rest = under;
        // Euclid's steps on a long are fewer than 100.
        for (int i = 0; i < 100 && rest != 0; i++) {
            long next = divisor % rest;
            divisor = rest;
            rest = next;
        }
        if (divisor == 0) {
            return what == 0 ? over : under;
        }
        return what == 0 ? over / divisor : under / divisor;
    }

    /** Beasts, robbers, the tower, beds and the scout: all that a text tells and an image keeps. */
    private static final class Band {
        private final int[] kinds = new int[MOST_BEASTS];
        private final int[] weights = new int[MOST_BEASTS];
        private final int[] voices = new int[MOST_BEASTS];
        private final int[] courages = new int[MOST_ROBBERS];
        private final int[] tower = new int[MOST_BEASTS];
        private final int[] bedRow = new int[MOST_BEASTS];
        private int beasts = 0;
        private int robbers = 0;
        private int height = 0;
        private int nerve = FIRST_SCOUT;

        private void clear() {
            beasts = 0;
            robbers = 0;
            height = 0;
            nerve = FIRST_SCOUT;
        }

        private void copyFrom(Band other) {
            System.arraycopy(other.kinds, 0, kinds, 0, MOST_BEASTS);
            System.arraycopy(other.weights, 0, weights, 0, MOST_BEASTS);
            System.arraycopy(other.voices, 0, voices, 0, MOST_BEASTS);
            System.arraycopy(other.courages, 0, courages, 0, MOST_ROBBERS);
            System.arraycopy(other.tower, 0, tower, 0, MOST_BEASTS);
            System.arraycopy(other.bedRow, 0, bedRow, 0, MOST_BEASTS);
            beasts = other.beasts;
            robbers = other.robbers;
            height = other.height;
            nerve = other.nerve;
        }

        private boolean hasBeast(int b) {
            return within(b, 0, beasts - 1);
        }

        private boolean hasRobber(int r) {
            return within(r, 0, robbers - 1);
        }

        private int bears(int b) {
            return byKind(kinds[b], weights[b]);
        }

        private int hurts(int b) {
            return byKind(kinds[b], 1);
        }

        private static int byKind(int kind, int n) {
            switch (kind) {
                case 0:
                    return n;
                case 1:
                    return n + 1;
                case 2:
                    return 2 * (n + 1);
                default:
                    return 2 * (n + 1) + 3;
            }
        }

        private int towerBits() {
            int bits = 0;
            for (int i = 0; i < height; i++) {
                bits |= 1 << tower[i];
            }
            return bits;
        }

        private boolean stands() {
            return carries(tower, height, 0);
        }

        private boolean canClimb(int b) {
            return height < MOST_BEASTS && (towerBits() >> b & 1) == 0 && carries(tower, height, weights[b]);
        }

        /** Whether each of a row bears all above it and a load on top of all. */
        private boolean carries(int[] row, int size, int load) {
            int above = load;
            for (int i = size - 1; i >= 0; i--) {
                if (bears(row[i]) < above) {
                    return false;
                }
                above += weights[row[i]];
            }
            return true;
        }

        private int noiseBy(int[] row, int size, int[] voiceOf) {
            int sum = 0;
            for (int i = 0; i < size; i++) {
                sum += voiceOf[row[i]] * (i + 1);
            }
            return sum;
        }

        private int fledBits(int loudness) {
            int bits = 0;
            int fright = loudness;
            for (int r = 0; r < robbers; r++) {
                if (fright > courages[r]) {
                    bits |= 1 << r;
                    fright += 2;
                }
            }
            return bits;
        }

        /** How many beds the scout meets, if beasts lie in them by this row. */
        private int metOn(int[] row) {
            int hurt = 0;
            int met = 0;
            while (met < beasts && hurt <= nerve) {
                hurt += hurts(row[met]);
                met++;
            }
            return met;
        }

        private int hurtBehind(int[] row, int n) {
            int hurt = 0;
            for (int i = 0; i < n; i++) {
                hurt += hurts(row[i]);
            }
            return hurt;
        }
    }

    /** A text, read into a draft, so that a flaw leaves what there is. */
    private static final class Tape {
        private static final int NAME = 0, NUMBER = 1, STOP = 2, END = 3;
        private static final int ROBBER = 4, SCOUT = 5, TOWER = 6, BEDS = 7, WORDS = 8;
        private static final int MOST_FIGURES = 2;

        private final int[] bytes = new int[TAPE_BYTES];
        private final Band draft = new Band();
        private int length = 0;
        private int place;
        private int token;
        private int start;
        private int number;
        private int told;
        private int bedsTold;
        private int flaw = 0;
        private int flawPlace;

        /** How many lines, or -10 less the place of the flaw. */
        private int tellAll() {
            draft.clear();
            fillByOrder(draft.bedRow);
            place = 0;
            told = 0;
            bedsTold = 0;
            flaw = 0;
            int lines = 0;
            // A line has a byte at least, so the tape's length bounds the lines.
            while (lines <= TAPE_BYTES && takeLine()) {
                lines++;
            }
            if (flaw == 0) {
                lookAtWhole();
            }
            return flaw == 0 ? lines : -10 - flawPlace;
        }

        private boolean refuse(int why, int where) {
            flaw = why;
            flawPlace = where;
            return false;
        }

        /** Whether a line was taken: not at the end, nor at a flaw. */
        private boolean takeLine() {
            if (!takeToken() || token == END) {
                return false;
            }
            int word = token == NAME ? wordRead() : WORDS;
            switch (word) {
                case ROBBER:
                    return takeRobber();
                case SCOUT:
                    return takeScout();
                case TOWER:
                    return takeTower();
                case BEDS:
                    return takeBeds();
                case WORDS:
                    return refuse(2, start);
                default:
                    return takeBeast(word);
            }
        }

        private boolean takeBeast(int kind) {
            int b = draft.beasts;
            if (b >= MOST_BEASTS) {
                return refuse(5, start);
            }
            if (!takeNumber(1, 9)) {
                return false;
            }
            draft.kinds[b] = kind;
            draft.weights[b] = number;
            if (!takeNumber(0, 9)) {
                return false;
            }
            draft.voices[b] = number;
            draft.beasts++;
            return takeStop();
        }

        private boolean takeRobber() {
            int r = draft.robbers;
            if (r >= MOST_ROBBERS) {
                return refuse(5, start);
            }
            if (!takeNumber(0, 99)) {
                return false;
            }
            draft.courages[r] = number;
            draft.robbers++;
            return takeStop();
        }

        private boolean takeScout() {
            if (!isFirst(SCOUT) || !takeNumber(0, MOST_SCOUT)) {
                return false;
            }
            draft.nerve = number;
            return takeStop();
        }

        private boolean takeTower() {
            if (!isFirst(TOWER)) {
                return false;
            }
            draft.height = takeRow(draft.tower);
            return flaw == 0;
        }

        private boolean takeBeds() {
            if (!isFirst(BEDS)) {
                return false;
            }
            bedsTold = takeRow(draft.bedRow);
            return flaw == 0;
        }

        private boolean isFirst(int word) {
            if ((told >> word & 1) == 1) {
                return refuse(4, start);
            }
            told |= 1 << word;
            return true;
        }

        /** Beasts up to the stop: how many; a flaw is set where the row is refused. */
        private int takeRow(int[] row) {
            int size = 0;
            int used = 0;
            // One more than beasts: the stop, or a beast that is there already.
            for (int i = 0; i <= MOST_BEASTS; i++) {
                if (!takeToken() || token == STOP) {
                    return size;
                }
                if (!numberWithin(0, MOST_BEASTS - 1)) {
                    return size;
                }
                if ((used >> number & 1) == 1 || size >= MOST_BEASTS) {
                    refuse(4, start);
                    return size;
                }
                used |= 1 << number;
                row[size] = number;
                size++;
            }
            return size;
        }

        private boolean takeNumber(int low, int high) {
            return takeToken() && numberWithin(low, high);
        }

        private boolean numberWithin(int low, int high) {
            if (token != NUMBER) {
                return refuse(2, start);
            }
            return within(number, low, high) || refuse(3, start);
        }

        private boolean takeStop() {
            return takeToken() && (token == STOP || refuse(2, start));
        }

        /** Reads the next token, or the end; false where there is none. */
        private boolean takeToken() {
            while (place < length && bytes[place] == ' ') {
                place++;
            }
            start = place;
            if (place >= length) {
                token = END;
                return true;
            }
            int c = bytes[place];
            if (c == ';') {
                token = STOP;
                place++;
                return true;
            }
            if (within(c, 'a', 'z')) {
                token = NAME;
                passRun('a', 'z');
                return true;
            }
            if (within(c, '0', '9')) {
                token = NUMBER;
                passRun('0', '9');
                return place - start <= MOST_FIGURES ? spellNumber() : refuse(1, start);
            }
            return refuse(1, start);
        }

        private void passRun(int low, int high) {
            while (place < length && within(bytes[place], low, high)) {
                place++;
            }
        }

        private boolean spellNumber() {
            number = 0;
            for (int i = start; i < place; i++) {
                number = number * 10 + bytes[i] - '0';
            }
            return true;
        }

        /** Which word the name is; WORDS if it is none. */
        private int wordRead() {
            for (int word = 0; word < WORDS; word++) {
                if (isSpelt(spelling(word))) {
                    return word;
                }
            }
            return WORDS;
        }

        private boolean isSpelt(String name) {
            if (name.length() != place - start) {
                return false;
            }
            for (int i = 0; i < name.length(); i++) {
                if (bytes[start + i] != name.charAt(i)) {
                    return false;
                }
            }
            return true;
        }

        private static String spelling(int word) {
            switch (word) {
                case 0:
                    return "cock";
                case 1:
                    return "cat";
                case 2:
                    return "hound";
                case 3:
                    return "ass";
                case ROBBER:
                    return "robber";
                case SCOUT:
                    return "scout";
                case TOWER:
                    return "tower";
                default:
                    return "beds";
            }
        }

        /** What can be told only behind all: the flaws 6, 7, 8. */
        private void lookAtWhole() {
            boolean bedsAreTold = (told >> BEDS & 1) == 1;
            if (!areThere(draft.tower, draft.height) || !areThere(draft.bedRow, bedsTold)) {
                refuse(6, length);
            } else if (bedsAreTold && bedsTold != draft.beasts) {
                refuse(7, length);
            } else if (!draft.stands()) {
                refuse(8, length);
            }
        }

        private boolean areThere(int[] row, int size) {
            for (int i = 0; i < size; i++) {
                if (!draft.hasBeast(row[i])) {
                    return false;
                }
            }
            return true;
        }
    }

    /** Goes through all towers that stand, by rows, and holds the first of the best ones. */
    private static final class Towers {
        private final int[] row = new int[MOST_BEASTS];
        private final int[] found = new int[MOST_BEASTS];
        private final int[] values = new int[1 << MOST_BEASTS];
        private int foundSize;
        private int foundScore;
        private int foundNoise;
        private int total;

        private void walk(Band band, int aim) {
            for (int some = 0; some < values.length; some++) {
                values[some] = 0;
            }
            total = 0;
            foundSize = 0;
            // Below every score, so that the first tower is taken.
            foundScore = -1;
            foundNoise = 0;
            visit(this, band, aim, 0, 0);
            spreadValues();
        }

        // A tower stands only if all its lower parts do: so it's built from the lowest one up.
        private static void visit(Towers search, Band band, int aim, int size, int used) {
            search.weigh(band, aim, size, used);
            if (size >= MOST_BEASTS) {
                return;
            }
            for (int b = 0; b < band.beasts; b++) {
                if ((used >> b & 1) == 0 && band.carries(search.row, size, band.weights[b])) {
                    search.row[size] = b;
                    visit(search, band, aim, size + 1, used | 1 << b);
                }
            }
        }

        private void weigh(Band band, int aim, int size, int used) {
            int loudness = band.noiseBy(row, size, band.voices);
            int fled = Integer.bitCount(band.fledBits(loudness));
            total++;
            values[used] = Math.max(values[used], fled);
            int score = fled;
            if (aim == AIM_ALL_FLEE) {
                score = fled == band.robbers ? 1 : 0;
            } else if (aim == AIM_LOUD) {
                score = loudness;
            }
            if (score > foundScore || score == foundScore && size < foundSize) {
                foundScore = score;
                foundNoise = loudness;
                foundSize = size;
                System.arraycopy(row, 0, found, 0, MOST_BEASTS);
            }
        }

        /** What some reach, more of them reach too: their tower may leave others out. */
        private void spreadValues() {
            for (int b = 0; b < MOST_BEASTS; b++) {
                for (int some = 0; some < values.length; some++) {
                    if ((some >> b & 1) == 1) {
                        values[some] = Math.max(values[some], values[some ^ 1 << b]);
                    }
                }
            }
        }

        private int foundAt(int i) {
            return within(i, 0, foundSize - 1) ? found[i] : NONE;
        }
    }

    private static final class Seen {
        private final int[] behind = new int[MOST_SEEN];
        private final int[] hurt = new int[MOST_SEEN];
        private int size = 0;
    }

    /** Goes through all orders of beasts in beds, the first one by rows ahead. */
    private static final class Orders {
        /** More than all beasts can hurt together. */
        private static final int HURTS = 40;

        private final int[] row = new int[MOST_BEASTS];
        private final int[] first = new int[MOST_BEASTS];
        private final int[] liers = new int[MOST_BEASTS];
        private final int[] tally = new int[(MOST_BEASTS + 1) * HURTS];
        private int fitting;
        private int worstHurt;

        private void seekWorst(Band band) {
            fillByOrder(row);
            worstHurt = -1;
            int all = factorial(band.beasts);
            for (int i = 0; i < all; i++) {
                int hurt = band.hurtBehind(row, band.metOn(row));
                if (hurt > worstHurt) {
                    worstHurt = hurt;
                    System.arraycopy(row, 0, first, 0, MOST_BEASTS);
                }
                stepOn(band.beasts);
            }
        }

        private void seekFitting(Band band, Seen seen) {
            fillByOrder(row);
            fitting = 0;
            for (int i = 0; i < MOST_BEASTS; i++) {
                liers[i] = 0;
            }
            for (int i = 0; i < tally.length; i++) {
                tally[i] = 0;
            }
            int all = factorial(band.beasts);
            for (int i = 0; i < all; i++) {
                if (isAsSeen(band, seen)) {
                    enter(band);
                }
                stepOn(band.beasts);
            }
        }

        private boolean isAsSeen(Band band, Seen seen) {
            for (int i = 0; i < seen.size; i++) {
                int n = seen.behind[i];
                if (n > band.beasts || band.hurtBehind(row, n) != seen.hurt[i]) {
                    return false;
                }
            }
            return true;
        }

        private void enter(Band band) {
            if (fitting == 0) {
                System.arraycopy(row, 0, first, 0, MOST_BEASTS);
            }
            fitting++;
            int hurt = 0;
            for (int i = 0; i < band.beasts; i++) {
                liers[i] |= 1 << row[i];
                hurt += band.hurts(row[i]);
                tally[(i + 1) * HURTS + hurt]++;
            }
        }

        /** How many fitting orders are left at the worst, if behind n beds the hurt is told. */
        private int mostLeft(int n) {
            int most = 0;
            for (int hurt = 0; hurt < HURTS; hurt++) {
                most = Math.max(most, tally[n * HURTS + hurt]);
            }
            return most;
        }

        /** The next order by rows; the last one stays. */
        private void stepOn(int size) {
            int i = size - 2;
            while (i >= 0 && row[i] > row[i + 1]) {
                i--;
            }
            if (i < 0) {
                return;
            }
            int j = size - 1;
            while (j > i && row[j] < row[i]) {
                j--;
            }
            exchange(row, i, j);
            for (int low = i + 1, high = size - 1; low < high; low++, high--) {
                exchange(row, low, high);
            }
        }
    }

    /** A row of cells of one lane; what the machine would find is looked for ahead. */
    private static final class Sheet {
        private static final int NOTHING = -1, BYTES = 0, SHORTS = 1;

        private final int[] cells = new int[MOST_CELLS];
        private int lane = NOTHING;
        private int size = 0;

        private void renew(int newLane, int newSize) {
            lane = newLane;
            size = newSize;
            for (int i = 0; i < MOST_CELLS; i++) {
                cells[i] = 0;
            }
        }

        /** The fault of cell i, if the sheet is taken as of a lane: nothing passes that, as null passes a cast. */
        private int faultAs(int asLane, int i) {
            return lane == NOTHING || lane == asLane ? faultAt(i) : CAST_FAULT;
        }

        private int faultAt(int i) {
            if (lane == NOTHING) {
                return NULL_FAULT;
            }
            return within(i, 0, size - 1) ? NO_FAULT : INDEX_FAULT;
        }

        private void put(int i, int v) {
            if (lane == BYTES) {
                cells[i] = (byte) v;
            } else if (lane == SHORTS) {
                cells[i] = (short) v;
            } else {
                cells[i] = v;
            }
        }
    }
}
