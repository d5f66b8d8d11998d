/**
 * A field for kites: flyers with kites in the winds, a row of flyers whose walks
 * wind lines about lines, fights of sharp lines, and sheets of numbers.
 *
 * <p>Every call answers an int. Answers below -99999 are findings; a call that
 * answers one has changed nothing but the count of findings.
 */
public final class KiteMeet {
    private static final int BEYOND = -100001;
    private static final int MISSING = -100002;
    private static final int SIZE = -100003;
    private static final int KIND = -100004;
    private static final int FULL = -100005;
    private static final int NONE = -100006;
    private static final int LOST = -100007;

    private static final int STUNT = 1;
    private static final int BOX = 2;
    private static final int FIGHTER = 3;
    private static final int KINDS = 4;
    /** For each kind the one that it is under; -1 where there is none. */
    private static final int[] OVER = {-1, 0, 0, 1};

    private static final int MOST_FLYERS = 8;
    private static final int SIDE = 100;
    private static final int HEIGHTS = 4;
    private static final int MOST_LINE = 40;
    private static final int MOST_SPAN = 9;
    private static final int MOST_FORCE = 12;
    private static final int MINUTES = 20;
    private static final int DIRECTIONS = 8;
    private static final int MOST_CHANGE = 3;
    private static final int[] STEP_X = {1, 1, 0, -1, -1, -1, 0, 1};
    private static final int[] STEP_Y = {0, 1, 1, 1, 0, -1, -1, -1};

    private static final int LEAST_ROW = 2;
    private static final int FIRST_ROW = 3;
    private static final int MOST_ROW = 5;
    private static final int MOST_LETTERS = 60;
    private static final int BACK = 10;
    private static final int MOST_UNTANGLING = 3;
    private static final int MOST_SHARPNESS = 9;
    private static final int CUT = 20;

    private static final int SHEETS = 4;
    private static final int MOST_NUMBERS = 40;
    private static final int KEPT_ACTS = 20;

    private final State now = new State();
    private final History history = new History();
    private final Sheet[] sheets = new Sheet[SHEETS];
    private final Joining joining = new Joining();
    private final Untangling untangling = new Untangling();
    /** Words to try walks on, so that asking changes nothing of the row itself. */
    private final Words trial = new Words();
    private final Words otherTrial = new Words();
    private int findings;

    public KiteMeet() {
        for (int s = 0; s < SHEETS; s++) {
            sheets[s] = new Sheet();
        }
    }

    // ---- flyers, winds

    public int flyer(int kind, int place, int height, int line, int span, int forces) {
        if (!isKind(kind) || !isSpot(place) || !isHeight(height)) {
            return finding(BEYOND);
        }
        if (!isLine(line) || span < 1 || span > MOST_SPAN) {
            return finding(BEYOND);
        }
        if (forces < 0 || !isForce(leastOf(forces)) || !isForce(mostOf(forces))) {
            return finding(BEYOND);
        }
        if (leastOf(forces) > mostOf(forces)) {
            return finding(SIZE);
        }
        if (now.air.flyers.areFull()) {
            return finding(FULL);
        }
        history.keep(now);
        int number = now.air.flyers.add(kind, place, height);
        now.air.flyers.equip(number, line, span, forces);
        return number;
    }

    public int as(int flyer, int kind) {
        if (!now.air.flyers.have(flyer) || !isKind(kind)) {
            return finding(BEYOND);
        }
        if (!isUnder(now.air.flyers.told(flyer, Flyers.KIND_OF), kind)) {
            return finding(KIND);
        }
        return flyer;
    }

    public int of(int flyer, int what) {
        if (!now.air.flyers.have(flyer) || what < 0 || what >= Flyers.TRAITS) {
            return finding(BEYOND);
        }
        return now.air.flyers.told(flyer, what);
    }

    public int go(int flyer, int place) {
        if (!now.air.flyers.have(flyer) || !isSpot(place)) {
            return finding(BEYOND);
        }
        int was = now.air.flyers.spotOf(flyer);
        history.keep(now);
        now.air.flyers.stand(flyer, place);
        return was;
    }

    public int line(int flyer, int v) {
        if (!now.air.flyers.have(flyer) || !isLine(v)) {
            return finding(BEYOND);
        }
        int was = now.air.flyers.told(flyer, Flyers.LINE);
        history.keep(now);
        now.air.flyers.tell(flyer, Flyers.LINE, v);
        return was;
    }

    public int wind(int height, int minute, int direction, int force) {
        if (!isHeight(height) || !isMinute(minute)) {
            return finding(BEYOND);
        }
        if (direction < 0 || direction >= DIRECTIONS || !isForce(force)) {
            return finding(BEYOND);
        }
        history.keep(now);
        now.air.winds.turn(height, minute, direction);
        now.air.winds.blow(height, minute, force);
        return 0;
    }

    public int windAt(int height, int minute, boolean direction) {
        if (!isHeight(height) || !isMinute(minute)) {
            return finding(BEYOND);
        }
        return direction
                ? now.air.winds.directionOf(height, minute)
                : now.air.winds.forceOf(height, minute);
    }

    // ---- in the air

    public int flies(int flyer, int minute) {
        if (!now.air.flyers.have(flyer) || !isMinute(minute)) {
            return finding(BEYOND);
        }
        return oneIf(now.air.carries(flyer, minute));
    }

    public int kite(int flyer, int minute, boolean ofY) {
        if (!now.air.flyers.have(flyer) || !isMinute(minute)) {
            return finding(BEYOND);
        }
        if (!now.air.carries(flyer, minute)) {
            return finding(NONE);
        }
        return ofY ? now.air.kiteY(flyer, minute) : now.air.kiteX(flyer, minute);
    }

    public int meet(int flyer, int other, int minute) {
        if (!now.air.flyers.have(flyer) || !now.air.flyers.have(other) || !isMinute(minute)) {
            return finding(BEYOND);
        }
        if (flyer == other) {
            return finding(SIZE);
        }
        for (int m = minute; m < MINUTES; m++) {
            if (now.air.areTooNear(flyer, other, m)) {
                return m;
            }
        }
        return finding(NONE);
    }

    public int meets(int minute) {
        if (!isMinute(minute)) {
            return finding(BEYOND);
        }
        return now.air.pairsTooNear(minute);
    }

    public int field(int minute) {
        if (!isMinute(minute)) {
            return finding(BEYOND);
        }
        return now.air.largestApart(minute);
    }

    public int best(int from, int to) {
        if (!isMinute(from) || !isMinute(to) || from > to) {
            return finding(BEYOND);
        }
        int found = from;
        int most = -1;
        for (int m = from; m <= to; m++) {
            int size = Integer.bitCount(now.air.largestApart(m));
            if (size > most) {
                most = size;
                found = m;
            }
        }
        return found;
    }

    // ---- the row, words

    public int row(int n) {
        if (!isRowSize(n)) {
            return finding(BEYOND);
        }
        int walks = now.row.walks;
        history.keep(now);
        now.row.begin(n);
        return walks;
    }

    public int walk(int place, boolean front) {
        Row row = now.row;
        if (place < 0 || place >= row.size - 1) {
            return finding(BEYOND);
        }
        if (row.isCut(row.standing[place]) || row.isCut(row.standing[place + 1])) {
            return finding(LOST);
        }
        if (!row.words.canPass(place, front, joining)) {
            return finding(FULL);
        }
        history.keep(now);
        row.settle(place, front, joining, now.air.flyers);
        return row.words.tangled();
    }

    public int at(int place) {
        if (!now.row.has(place)) {
            return finding(BEYOND);
        }
        return now.row.standing[place];
    }

    public int letter(int place, int i) {
        if (!now.row.has(place)) {
            return finding(BEYOND);
        }
        int length = now.row.words.lengths[place];
        if (i == -1) {
            return length;
        }
        if (i < 0 || i >= length) {
            return finding(BEYOND);
        }
        return now.row.words.told(place, i);
    }

    public int tangle() {
        return now.row.words.tangled();
    }

    public int twist(int flyer, int other) {
        if (!now.row.has(flyer) || !now.row.has(other)) {
            return finding(BEYOND);
        }
        if (flyer == other) {
            return finding(SIZE);
        }
        return now.row.twistOf(flyer, other);
    }

    public int fewest(int i) {
        if (i < -1) {
            return finding(BEYOND);
        }
        trial.takeFrom(now.row.words);
        int length = untangling.shortest(trial, joining);
        if (length < 0 || i >= length) {
            return finding(NONE);
        }
        return i < 0 ? length : untangling.walks[i];
    }

    public int same(int n, int s, int t) {
        if (!isRowSize(n) || !isSheet(s) || !isSheet(t)) {
            return finding(BEYOND);
        }
        if (sheets[s].isMissing() || sheets[t].isMissing()) {
            return finding(MISSING);
        }
        int last = walksOf(n) - 1;
        if (!sheets[s].isWithin(last) || !sheets[t].isWithin(last)) {
            return finding(BEYOND);
        }
        if (!follow(trial, n, sheets[s]) || !follow(otherTrial, n, sheets[t])) {
            return finding(FULL);
        }
        return oneIf(trial.areThoseOf(otherTrial));
    }

    // ---- fights

    public int sharp(int flyer, int v) {
        if (!now.row.has(flyer) || v < 0 || v > MOST_SHARPNESS) {
            return finding(BEYOND);
        }
        int was = now.row.sharpness[flyer];
        history.keep(now);
        now.row.sharpness[flyer] = v;
        return was;
    }

    public int wear(int flyer) {
        if (!now.row.has(flyer)) {
            return finding(BEYOND);
        }
        return now.row.worn[flyer];
    }

    public int lost() {
        int bits = 0;
        for (int flyer = 0; flyer < now.row.size; flyer++) {
            if (now.row.isCut(flyer)) {
                bits |= 1 << flyer;
            }
        }
        return bits;
    }

    // ---- sheets, the whole

    public int sheet(int s, int bits, int n) {
        if (!isSheet(s) || (bits != 0 && bits != 8 && bits != 16 && bits != 32)) {
            return finding(BEYOND);
        }
        if (n < 0) {
            return finding(SIZE);
        }
        if (n > MOST_NUMBERS) {
            return finding(BEYOND);
        }
        sheets[s].begin(bits, n);
        return sheets[s].count;
    }

    public int put(int s, int i, int v) {
        if (!isSheet(s)) {
            return finding(BEYOND);
        }
        if (sheets[s].isMissing()) {
            return finding(MISSING);
        }
        if (i < 0 || i >= sheets[s].count) {
            return finding(BEYOND);
        }
        sheets[s].write(i, v);
        return 0;
    }

    public int copy(int s, int from, int t, int to, int n) {
        if (!isSheet(s) || !isSheet(t)) {
            return finding(BEYOND);
        }
        if (sheets[s].isMissing() || sheets[t].isMissing()) {
            return finding(MISSING);
        }
        if (sheets[s].bits != sheets[t].bits) {
            return finding(KIND);
        }
        if (!sheets[s].reaches(from, n) || !sheets[t].reaches(to, n)) {
            return finding(BEYOND);
        }
        System.arraycopy(sheets[s].numbers, from, sheets[t].numbers, to, n);
        return n;
    }

    public int gusts(int height, int minute, int s) {
        if (!isHeight(height) || !isMinute(minute) || !isSheet(s)) {
            return finding(BEYOND);
        }
        if (sheets[s].isMissing()) {
            return finding(MISSING);
        }
        int count = sheets[s].count;
        if (minute + count > MINUTES) {
            return finding(SIZE);
        }
        if (!sheets[s].isWithin(MOST_FORCE)) {
            return finding(BEYOND);
        }
        history.keep(now);
        for (int i = 0; i < count; i++) {
            now.air.winds.blow(height, minute + i, sheets[s].numbers[i]);
        }
        return count;
    }

    public int undo() {
        if (history.count == 0) {
            return finding(NONE);
        }
        history.giveBack(now);
        return history.count;
    }

    public int all(int what) {
        switch (what) {
            case 0:
                return now.air.flyers.count;
            case 1:
                return now.row.size;
            case 2:
                return now.row.walks;
            case 3:
                return oneIf(now.row.words.areAsAtFirst());
            case 4:
                return findings;
            default:
                return finding(BEYOND);
        }
    }

    private int finding(int told) {
        findings++;
        return told;
    }

    /** Walks by a sheet from a row of n as at first; false if a word would be too long. */
    private boolean follow(Words words, int n, Sheet told) {
        words.begin(n);
        for (int i = 0; i < told.count; i++) {
            if (!words.pass(placeOf(told.numbers[i]), isFront(told.numbers[i]), joining)) {
                return false;
            }
        }
        return true;
    }

    private static int oneIf(boolean holds) {
        return holds ? 1 : 0;
    }

    private static boolean isKind(int kind) {
        return kind >= 0 && kind < KINDS;
    }

    /** Whether a kind is another one, or is under it. */
    private static boolean isUnder(int kind, int other) {
        int k = kind;
        for (int step = 0; step < KINDS && k >= 0 && k < KINDS; step++) {
            if (k == other) {
                return true;
            }
            k = OVER[k];
        }
        return false;
    }

    private static boolean isSpot(int place) {
        return place >= 0 && place < SIDE * SIDE;
    }

    private static boolean isHeight(int height) {
        return height >= 0 && height < HEIGHTS;
    }

    private static boolean isLine(int line) {
        return line >= 1 && line <= MOST_LINE;
    }

    private static boolean isForce(int force) {
        return force >= 0 && force <= MOST_FORCE;
    }

    private static int leastOf(int forces) {
        return forces / 16;
    }

    private static int mostOf(int forces) {
        return forces % 16;
    }

    private static boolean isMinute(int minute) {
        return minute >= 0 && minute < MINUTES;
    }

    private static boolean isRowSize(int n) {
        return n >= LEAST_ROW && n <= MOST_ROW;
    }

    private static boolean isSheet(int s) {
        return s >= 0 && s < SHEETS;
    }

    /** How many different walks a row of n has; they are told by 0 up to one less. */
    private static int walksOf(int n) {
        return 2 * (n - 1);
    }

    private static int placeOf(int told) {
        return told / 2;
    }

    private static boolean isFront(int told) {
        return told % 2 == 0;
    }

    /** The flyers that are told: for each a row of traits, numbered as 'of' asks for them. */
    private static final class Flyers {
        static final int KIND_OF = 0;
        static final int X = 1;
        static final int Y = 2;
        static final int HEIGHT = 3;
        static final int LINE = 4;
        static final int SPAN = 5;
        static final int LEAST = 6;
        static final int MOST = 7;
        static final int TRAITS = 8;

        private final int[] traits = new int[MOST_FLYERS * TRAITS];
        private int count;

        boolean have(int flyer) {
            return flyer >= 0 && flyer < count;
        }

        boolean areFull() {
            return count >= MOST_FLYERS;
        }

        int told(int flyer, int what) {
            return traits[flyer * TRAITS + what];
        }

        void tell(int flyer, int what, int v) {
            traits[flyer * TRAITS + what] = v;
        }

        int add(int kind, int spot, int height) {
            int number = count;
            count++;
            tell(number, KIND_OF, kind);
            stand(number, spot);
            tell(number, HEIGHT, height);
            return number;
        }

        void equip(int flyer, int length, int span, int forces) {
            tell(flyer, LINE, length);
            tell(flyer, SPAN, span);
            tell(flyer, LEAST, leastOf(forces));
            tell(flyer, MOST, mostOf(forces));
        }

        int spotOf(int flyer) {
            return SIDE * told(flyer, X) + told(flyer, Y);
        }

        void stand(int flyer, int spot) {
            tell(flyer, X, spot / SIDE);
            tell(flyer, Y, spot % SIDE);
        }

        boolean fight(int flyer) {
            return have(flyer) && told(flyer, KIND_OF) == FIGHTER;
        }

        void takeFrom(Flyers others) {
            System.arraycopy(others.traits, 0, traits, 0, traits.length);
            count = others.count;
        }
    }

    /** A direction and a force for each height and minute. */
    private static final class Winds {
        private final int[] directions = new int[HEIGHTS * MINUTES];
        private final int[] forces = new int[HEIGHTS * MINUTES];

        int directionOf(int height, int minute) {
            return directions[height * MINUTES + minute];
        }

        int forceOf(int height, int minute) {
            return forces[height * MINUTES + minute];
        }

        void turn(int height, int minute, int direction) {
            directions[height * MINUTES + minute] = direction;
        }

        void blow(int height, int minute, int force) {
            forces[height * MINUTES + minute] = force;
        }

        void takeFrom(Winds others) {
            System.arraycopy(others.directions, 0, directions, 0, directions.length);
            System.arraycopy(others.forces, 0, forces, 0, forces.length);
        }
    }

    /** Flyers and winds, and what the kites do in the winds. */
    private static final class Air {
        private final Flyers flyers = new Flyers();
        private final Winds winds = new Winds();
        /** For each flyer the set of earlier ones that its kite meets, in the minute asked for. */
        private final int[] near = new int[MOST_FLYERS];

        boolean carries(int flyer, int minute) {
            int kind = flyers.told(flyer, Flyers.KIND_OF);
            int height = flyers.told(flyer, Flyers.HEIGHT);
            int force = winds.forceOf(height, minute);
            int least = flyers.told(flyer, Flyers.LEAST);
            int most = flyers.told(flyer, Flyers.MOST);
            if (kind == BOX) {
                least += 1;
                most += 2;
            }
            if (force < least || force > most) {
                return false;
            }
            return !isUnder(kind, STUNT) || isSteady(height, minute);
        }

        private boolean isSteady(int height, int minute) {
            if (minute == 0) {
                return true;
            }
            int change = winds.forceOf(height, minute) - winds.forceOf(height, minute - 1);
            return Math.abs(change) <= MOST_CHANGE;
        }

        int kiteX(int flyer, int minute) {
            int steps = flyers.told(flyer, Flyers.LINE);
            return flyers.told(flyer, Flyers.X) + steps * STEP_X[directionFor(flyer, minute)];
        }

        int kiteY(int flyer, int minute) {
            int steps = flyers.told(flyer, Flyers.LINE);
            return flyers.told(flyer, Flyers.Y) + steps * STEP_Y[directionFor(flyer, minute)];
        }

        private int directionFor(int flyer, int minute) {
            return winds.directionOf(flyers.told(flyer, Flyers.HEIGHT), minute);
        }

        boolean areTooNear(int flyer, int other, int minute) {
            if (flyers.told(flyer, Flyers.HEIGHT) != flyers.told(other, Flyers.HEIGHT)) {
                return false;
            }
            if (!carries(flyer, minute) || !carries(other, minute)) {
                return false;
            }
            int spans = flyers.told(flyer, Flyers.SPAN) + flyers.told(other, Flyers.SPAN);
            return Math.abs(kiteX(flyer, minute) - kiteX(other, minute)) < spans
                    && Math.abs(kiteY(flyer, minute) - kiteY(other, minute)) < spans;
        }

        int pairsTooNear(int minute) {
            int pairs = 0;
            for (int flyer = 0; flyer < flyers.count; flyer++) {
                for (int other = flyer + 1; other < flyers.count; other++) {
                    pairs += oneIf(areTooNear(flyer, other, minute));
                }
            }
            return pairs;
        }

        /** The largest set of flying kites that don't meet; of several the least as bits. */
        int largestApart(int minute) {
            int flying = lookAround(minute);
            int found = 0;
            int most = 0;
            for (int set = 1; set <= flying; set++) {
                if ((set & ~flying) == 0 && Integer.bitCount(set) > most && areApart(set)) {
                    found = set;
                    most = Integer.bitCount(set);
                }
            }
            return found;
        }

        /** Fills the sets of who meets whom, and answers who flies. */
        private int lookAround(int minute) {
            int flying = 0;
            for (int flyer = 0; flyer < flyers.count; flyer++) {
                near[flyer] = 0;
                if (carries(flyer, minute)) {
                    flying |= 1 << flyer;
                }
                for (int other = 0; other < flyer; other++) {
                    if (areTooNear(flyer, other, minute)) {
                        near[flyer] |= 1 << other;
                    }
                }
            }
            return flying;
        }

        private boolean areApart(int set) {
            for (int flyer = 0; flyer < flyers.count; flyer++) {
                if ((set >> flyer & 1) == 1 && (near[flyer] & set) != 0) {
                    return false;
                }
            }
            return true;
        }
    }

    /** A word under making: letters that undo one another go as soon as they come together. */
    private static final class Joining {
        private final int[] letters = new int[3 * MOST_LETTERS];
        private int length;

        void begin() {
            length = 0;
        }

        void addWord(Words words, int place) {
            for (int i = 0; i < words.lengths[place]; i++) {
                add(words.told(place, i));
            }
        }

        void addTurned(Words words, int place) {
            for (int i = words.lengths[place] - 1; i >= 0; i--) {
                add(turned(words.told(place, i)));
            }
        }

        private void add(int told) {
            if (length > 0 && letters[length - 1] == turned(told)) {
                length--;
            } else if (length < letters.length) {
                letters[length] = told;
                length++;
            }
        }

        private static int turned(int told) {
            return told < BACK ? told + BACK : told - BACK;
        }
    }

    /** The words of all places of a row. */
    private static final class Words {
        private final int[] lengths = new int[MOST_ROW];
        private final int[] letters = new int[MOST_ROW * MOST_LETTERS];
        private int size;

        void begin(int n) {
            size = n;
            for (int place = 0; place < n; place++) {
                lengths[place] = 1;
                letters[place * MOST_LETTERS] = place;
            }
        }

        int told(int place, int i) {
            return letters[place * MOST_LETTERS + i];
        }

        /** Whether a walk can be; the new word then stands in joining. */
        boolean canPass(int place, boolean front, Joining joining) {
            joining.begin();
            if (front) {
                joining.addWord(this, place);
                joining.addWord(this, place + 1);
                joining.addTurned(this, place);
            } else {
                joining.addTurned(this, place + 1);
                joining.addWord(this, place);
                joining.addWord(this, place + 1);
            }
            return joining.length <= MOST_LETTERS;
        }

        /** A walk, if it can be. */
        boolean pass(int place, boolean front, Joining joining) {
            if (!canPass(place, front, joining)) {
                return false;
            }
            settle(place, front, joining);
            return true;
        }

        /** A walk whose new word stands in joining; the other word only changes its place. */
        void settle(int place, boolean front, Joining joining) {
            int kept = front ? place : place + 1;
            int keptTo = front ? place + 1 : place;
            setWord(keptTo, letters, kept * MOST_LETTERS, lengths[kept]);
            setWord(kept, joining.letters, 0, joining.length);
        }

        private void setWord(int place, int[] source, int from, int length) {
            System.arraycopy(source, from, letters, place * MOST_LETTERS, length);
            lengths[place] = length;
        }

        int tangled() {
            int sum = 0;
            for (int place = 0; place < size; place++) {
                sum += lengths[place];
            }
            return sum - size;
        }

        int longest() {
            int most = 0;
            for (int place = 0; place < size; place++) {
                most = Math.max(most, lengths[place]);
            }
            return most;
        }

        boolean areAsAtFirst() {
            for (int place = 0; place < size; place++) {
                if (lengths[place] != 1 || told(place, 0) != place) {
                    return false;
                }
            }
            return true;
        }

        /** Whether these are the words of another row of as many. */
        boolean areThoseOf(Words others) {
            for (int place = 0; place < size; place++) {
                if (!hasWordOf(others, place)) {
                    return false;
                }
            }
            return true;
        }

        private boolean hasWordOf(Words others, int place) {
            if (lengths[place] != others.lengths[place]) {
                return false;
            }
            for (int i = 0; i < lengths[place]; i++) {
                if (told(place, i) != others.told(place, i)) {
                    return false;
                }
            }
            return true;
        }

        void takeFrom(Words others) {
            size = others.size;
            for (int place = 0; place < size; place++) {
                setWord(place, others.letters, place * MOST_LETTERS, others.lengths[place]);
            }
        }
    }

    /** The search for the shortest row of walks that untangles words. */
    private static final class Untangling {
        /**
         * By how many walks are left: how long a word may be. A walk makes no word more than
         * three times as long as the longest was, and each walk has one that takes it back.
         */
        private static final int[] LONGEST = {1, 3, 9, 27};

        private final int[] walks = new int[MOST_UNTANGLING];

        /** How many walks untangle the words, or -1; the walks then stand in 'walks'. */
        int shortest(Words words, Joining joining) {
            for (int length = 0; length <= MOST_UNTANGLING; length++) {
                if (untangles(words, joining, 0, length)) {
                    return length;
                }
            }
            return -1;
        }

        /** Tries the walks from number 'done' up to 'length' in order; words end as they were. */
        private boolean untangles(Words words, Joining joining, int done, int length) {
            int left = length - done;
            if (left < 0 || left > MOST_UNTANGLING || words.longest() > LONGEST[left]) {
                return false;
            }
            if (left == 0) {
                return words.areAsAtFirst();
            }
            for (int told = 0; told < walksOf(words.size); told++) {
                if (words.pass(placeOf(told), isFront(told), joining)) {
                    walks[done] = told;
                    boolean found = untangles(words, joining, done + 1, length);
                    words.pass(placeOf(told), !isFront(told), joining);
                    if (found) {
                        return true;
                    }
                }
            }
            return false;
        }
    }

    /** The row: who stands where, with the words, the twists and the fights. */
    private static final class Row {
        private final Words words = new Words();
        /** For each place its flyer. */
        private final int[] standing = new int[MOST_ROW];
        /** For two flyers, at MOST_ROW times the lesser one and the other. */
        private final int[] twists = new int[MOST_ROW * MOST_ROW];
        private final int[] sharpness = new int[MOST_ROW];
        private final int[] worn = new int[MOST_ROW];
        private int size;
        private int walks;

        Row() {
            begin(FIRST_ROW);
        }

        void begin(int n) {
            size = n;
            walks = 0;
            words.begin(n);
            for (int k = 0; k < MOST_ROW; k++) {
                standing[k] = k;
                sharpness[k] = 0;
                worn[k] = 0;
            }
            for (int k = 0; k < twists.length; k++) {
                twists[k] = 0;
            }
        }

        /** Whether the row has a place of that number, and so a flyer of it. */
        boolean has(int number) {
            return number >= 0 && number < size;
        }

        boolean isCut(int flyer) {
            return worn[flyer] >= CUT;
        }

        int twistOf(int flyer, int other) {
            return twists[pair(flyer, other)];
        }

        private static int pair(int flyer, int other) {
            return MOST_ROW * Math.min(flyer, other) + Math.max(flyer, other);
        }

        /** A walk that can be and whose new word stands in joining. */
        void settle(int place, boolean front, Joining joining, Flyers flyers) {
            int flyer = standing[place];
            int other = standing[place + 1];
            words.settle(place, front, joining);
            standing[place] = other;
            standing[place + 1] = flyer;
            twists[pair(flyer, other)] += front ? 1 : -1;
            worn[flyer] += biteOf(other, flyers);
            worn[other] += biteOf(flyer, flyers);
            walks++;
        }

        private int biteOf(int flyer, Flyers flyers) {
            return flyers.fight(flyer) ? 2 * sharpness[flyer] : sharpness[flyer];
        }

        void takeFrom(Row other) {
            words.takeFrom(other.words);
            System.arraycopy(other.standing, 0, standing, 0, MOST_ROW);
            System.arraycopy(other.twists, 0, twists, 0, twists.length);
            System.arraycopy(other.sharpness, 0, sharpness, 0, MOST_ROW);
            System.arraycopy(other.worn, 0, worn, 0, MOST_ROW);
            size = other.size;
            walks = other.walks;
        }
    }

    /** A row of numbers of some bits; of 0 bits while it is missing. */
    private static final class Sheet {
        private final int[] numbers = new int[MOST_NUMBERS];
        private int bits;
        private int count;

        void begin(int newBits, int n) {
            bits = newBits;
            count = newBits == 0 ? 0 : n;
            for (int i = 0; i < count; i++) {
                numbers[i] = 0;
            }
        }

        boolean isMissing() {
            return bits == 0;
        }

        void write(int i, int v) {
            int above = 32 - bits;
            numbers[i] = v << above >> above;
        }

        boolean isWithin(int most) {
            for (int i = 0; i < count; i++) {
                if (numbers[i] < 0 || numbers[i] > most) {
                    return false;
                }
            }
            return true;
        }

        boolean reaches(int from, int n) {
            return from >= 0 && n >= 0 && from <= count && n <= count - from;
        }
    }

    /** All that an undo gives back. */
    private static final class State {
        private final Air air = new Air();
        private final Row row = new Row();

        void takeFrom(State other) {
            air.flyers.takeFrom(other.air.flyers);
            air.winds.takeFrom(other.air.winds);
            row.takeFrom(other.row);
        }
    }

    /** The states ahead of the latest acts, in a ring whose states are made when first needed. */
    private static final class History {
        private final State[] states = new State[KEPT_ACTS];
        private int next;
        private int count;

        void keep(State now) {
            if (states[next] == null) {
                states[next] = new State();
            }
            states[next].takeFrom(now);
            next = (next + 1) % KEPT_ACTS;
            count = Math.min(count + 1, KEPT_ACTS);
        }

        /** Gives back the latest state, where there is one. */
        void giveBack(State now) {
            int latest = (next + KEPT_ACTS - 1) % KEPT_ACTS;
            if (count > 0 && states[latest] != null) {
                now.takeFrom(states[latest]);
                next = latest;
                count--;
            }
        }
    }
}
