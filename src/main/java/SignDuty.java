/**
 * The duty on gestures in a loud city, as ../shared/DOC.md promises it.
 *
 * Every row that a call needs is made with the object and used again, so that no call makes anything.
 */
public final class SignDuty {
    public static final int NONE = -1000000, BAD = -1000001, STATE = -1000002, FULL = -1000003;

    private static final int FINDINGS = -1000010, FAULTS = -1000100;
    private static final int NULL = 1, PLACE = 2, KIND = 3, SIZE = 4, STORE = 5;

    /** What a check answers when nothing is to be refused; all refusals are below it. */
    private static final int FITS = 0;

    private static final int STREETS = 7, GESTURES = 6, MEANINGS = 4, IMAGES = 2;
    private static final int MOST_DIM = 30, MOST_STRICT = 9, MOST_RATE = 9, MOST_INCHES = 30, MOST_TAKES = 9;
    private static final int MOST_PAID = 99999, MOST_TIME = 99, MOST_PURSE = 9999, MOST_PAIRS = 12;

    private final Rows rows = new Rows();
    private final Reader reader = new Reader();
    private final City city = new City();
    private final City draft = new City();
    private final City[] images = {new City(), new City()};
    private final Acts acts = new Acts();
    private final Teller teller = new Teller();
    private final Asks asks = new Asks();
    private int lastFinding = FITS;

    public SignDuty() {
    }

    // ---- rows

    public int row(int row, int lane, int n) {
        if (!Rows.isRow(row) || !isWithin(lane, Rows.BYTES, Rows.INTS) || n > Rows.MOST_ITEMS) {
            return BAD;
        }
        if (n < 0) {
            return found(SIZE);
        }
        rows.lay(row, lane, n);
        return foundNothing(n);
    }

    public int set(int row, int i, int v) {
        if (!Rows.isRow(row)) {
            return BAD;
        }
        int finding = rows.findingOf(row, i, 1);
        if (finding != FITS) {
            return found(finding);
        }
        return foundNothing(rows.put(row, i, v));
    }

    public int copy(int a, int i, int b, int j, int n) {
        if (!Rows.isRow(a) || !Rows.isRow(b)) {
            return BAD;
        }
        if (rows.isMissing(a) || rows.isMissing(b)) {
            return found(NULL);
        }
        if (!rows.areAlike(a, b)) {
            return found(STORE);
        }
        if (!rows.reaches(a, i, n) || !rows.reaches(b, j, n)) {
            return found(PLACE);
        }
        rows.carry(a, i, b, j, n);
        return foundNothing(n);
    }

    public int drop(int row) {
        if (!Rows.isRow(row)) {
            return BAD;
        }
        if (rows.isMissing(row)) {
            return found(NULL);
        }
        return foundNothing(rows.takeAway(row));
    }

    // ---- cities, acts

    public int feed(int letter) {
        if (!isWithin(letter, 0, 255)) {
            return BAD;
        }
        return reader.isFull() ? FULL : reader.append(letter);
    }

    public int city() {
        if (!reader.reads(draft)) {
            return FAULTS - reader.faultPlace;
        }
        city.become(draft);
        acts.forgetAll();
        return city.gestures;
    }

    public int fault() {
        return reader.lastFault;
    }

    public int make(int gesture, int street) {
        if (!isGesture(gesture) || !isStreet(street)) {
            return BAD;
        }
        if (!city.isSeen(gesture, street)) {
            return STATE;
        }
        int owed = city.owes(gesture, street);
        if (city.paid + owed > MOST_PAID) {
            return FULL;
        }
        city.made[gesture]++;
        city.paid += owed;
        acts.keep(Acts.MADE, gesture, owed);
        return city.paid;
    }

    public int dim(int street, int v) {
        if (!isStreet(street) || !isWithin(v, 0, MOST_DIM)) {
            return BAD;
        }
        int before = city.dim[street];
        city.dim[street] = v;
        acts.keep(Acts.DIMMED, street, before);
        return before;
    }

    public int train(int gesture, int n) {
        if (!isGesture(gesture) || !isWithin(n, 1, MOST_INCHES - 1)) {
            return BAD;
        }
        if (city.inches[gesture] - n < 1) {
            return STATE;
        }
        city.inches[gesture] -= n;
        acts.keep(Acts.TRAINED, gesture, n);
        return city.inches[gesture];
    }

    public int know(int street, int is) {
        if (!isStreet(street) || !isWithin(is, 0, 1)) {
            return BAD;
        }
        if (city.isKnown(street) == (is == 1)) {
            return STATE;
        }
        city.turnKnown(street);
        acts.keep(Acts.KNOWN, street, 0);
        return city.known;
    }

    public int undo() {
        if (acts.kept == 0) {
            return STATE;
        }
        acts.takeBack(city);
        return acts.kept;
    }

    public int gesture(int gesture, int what) {
        if (!isGesture(gesture)) {
            return BAD;
        }
        switch (what) {
            case 0: return city.inches[gesture];
            case 1: return city.means[gesture];
            case 2: return city.takes[gesture];
            case 3: return city.streetsThatSee(gesture);
            case 4: return city.made[gesture];
            default: return BAD;
        }
    }

    public int street(int street, int what) {
        if (!isStreet(street)) {
            return BAD;
        }
        switch (what) {
            case 0: return city.dim[street];
            case 1: return city.strict[street];
            case 2: return city.isKnown(street) ? 1 : 0;
            case 3: return city.gesturesSeenIn(street);
            default: return BAD;
        }
    }

    public int duty(int gesture, int street) {
        return isGesture(gesture) && isStreet(street) ? city.owes(gesture, street) : BAD;
    }

    // ---- foretold

    public int tell(int means, int a, int b, int t, int k) {
        if (!isMeaning(means) || !isStretch(a, b) || !isWithin(t, 0, MOST_TIME) || !isWithin(k, -1, STREETS - 1)) {
            return BAD;
        }
        return k < 0 ? teller.leastDuty(city, means, a, b, t) : teller.gestureOfCheapest(city, means, a, b, t, k);
    }

    public int shut(int means) {
        if (!city.stands) {
            return STATE;
        }
        return isMeaning(means) ? city.streetsWithout(means) : BAD;
    }

    public int quick(int means, int a, int b) {
        if (!isMeaning(means) || !isStretch(a, b)) {
            return BAD;
        }
        int time = 0;
        for (int street = a; street <= b; street++) {
            int least = city.leastTime(means, street);
            if (least == NONE) {
                return NONE;
            }
            time += least;
        }
        return time;
    }

    public int thread(int row, int i, int n) {
        if (!city.stands) {
            return STATE;
        }
        int refusal = refusalOfThread(row, i, n);
        if (refusal != FITS) {
            return refusal;
        }
        int bits = 0;
        for (int gesture = 0; gesture < city.gestures; gesture++) {
            boolean owes = owesAlong(city.kind[gesture], city.inches[gesture], row, i, n);
            if (owes && isSeenAlong(gesture, row, i, n)) {
                bits |= 1 << gesture;
            }
        }
        return foundNothing(bits);
    }

    public int inches(int gesture, int row, int i, int n) {
        int refusal = isGesture(gesture) ? refusalOfThread(row, i, n) : BAD;
        if (refusal != FITS) {
            return refusal;
        }
        int bits = 0;
        for (int inches = 1; inches <= MOST_INCHES; inches++) {
            if (owesAlong(city.kind[gesture], inches, row, i, n)) {
                bits |= 1 << inches - 1;
            }
        }
        return foundNothing(bits);
    }

    public int sorts(int gesture, int row, int i, int n) {
        int refusal = isGesture(gesture) ? refusalOfThread(row, i, n) : BAD;
        if (refusal != FITS) {
            return refusal;
        }
        int bits = 0;
        for (int kind = Kinds.WAVE; kind <= Kinds.SHRUG; kind++) {
            if (owesAlong(kind, city.inches[gesture], row, i, n)) {
                bits |= 1 << kind;
            }
        }
        return foundNothing(bits);
    }

    public int saved(int gesture) {
        if (!isGesture(gesture)) {
            return BAD;
        }
        int less = 0;
        for (int street = 0; street < city.streets; street++) {
            less += city.owes(gesture, street) - city.owesIfKnown(gesture, street);
        }
        return less;
    }

    public int worst(int gesture, int what) {
        if (!isGesture(gesture) || !isWithin(what, 0, 1)) {
            return BAD;
        }
        if (city.streets == 0) {
            return NONE;
        }
        int dearest = city.dearestStreet(gesture);
        return what == 0 ? dearest : city.owes(gesture, dearest);
    }

    public int tremble(int gesture, int a, int b, int v, int c, int what) {
        if (!isGesture(gesture) || !isStretch(a, b) || !isWithin(v, 0, MOST_PURSE)) {
            return BAD;
        }
        if (!isWithin(c, 0, 10) || !isWithin(what, 0, 1)) {
            return BAD;
        }
        int enough = tenthsWithin(city, gesture, a, b, v, c);
        int all = 1;
        for (int street = a; street <= b; street++) {
            all *= 10;
        }
        int shared = Math.max(1, commonDivisor(enough, all));
        return (what == 0 ? enough : all) / shared;
    }

    public int image(int k) {
        if (!isWithin(k, 0, IMAGES - 1)) {
            return BAD;
        }
        if (!city.stands) {
            return STATE;
        }
        images[k].become(city);
        return 1;
    }

    public int restore(int k) {
        if (!isWithin(k, 0, IMAGES - 1)) {
            return BAD;
        }
        if (!images[k].stands) {
            return STATE;
        }
        city.become(images[k]);
        acts.forgetAll();
        return 1;
    }

    // ---- asked

    public int kind(int gesture) {
        return isGesture(gesture) ? city.kind[gesture] : BAD;
    }

    public int as(int gesture, int kind) {
        if (!isGesture(gesture) || !isWithin(kind, Kinds.GESTURE, Kinds.SHRUG)) {
            return BAD;
        }
        return Kinds.isOneOf(city.kind[gesture], kind) ? foundNothing(gesture) : found(KIND);
    }

    public int ask(int gesture, int what) {
        if (!isGesture(gesture) || !isWithin(what, Asks.SIZE, Asks.MARK)) {
            return BAD;
        }
        return asks.answer(city, gesture, what);
    }

    public int trace(int i) {
        return asks.numberLeft(i);
    }

    public int count(int what) {
        switch (what) {
            case 0: return rows.howMany();
            case 1: return city.streets;
            case 2: return city.gestures;
            case 3: return city.paid;
            case 4: return city.rate;
            case 5: return Integer.bitCount(city.known);
            case 6: return acts.kept;
            case 7: return reader.length;
            default: return BAD;
        }
    }

    public int status() {
        return lastFinding;
    }

    // ---- what the calls share

    private static boolean isWithin(int number, int least, int most) {
        return number >= least && number <= most;
    }

    private static boolean isMeaning(int means) {
        return isWithin(means, 0, MEANINGS - 1);
    }

    private boolean isGesture(int gesture) {
        return gesture >= 0 && gesture < city.gestures;
    }

    private boolean isStreet(int street) {
        return street >= 0 && street < city.streets;
    }

    private boolean isStretch(int a, int b) {
        return isStreet(a) && isStreet(b) && a <= b;
    }

    private int found(int finding) {
        lastFinding = finding;
        return FINDINGS - finding;
    }

    private int foundNothing(int answer) {
        lastFinding = FITS;
        return answer;
    }

    /** FITS, if n pairs of street and duty stand in the row from i on; else what the call has to answer. */
    private int refusalOfThread(int row, int i, int n) {
        if (!Rows.isRow(row) || !isWithin(n, 1, MOST_PAIRS)) {
            return BAD;
        }
        int finding = rows.findingOf(row, i, 2 * n);
        if (finding != FITS) {
            return found(finding);
        }
        for (int pair = 0; pair < n; pair++) {
            if (!isStreet(rows.at(row, i + 2 * pair))) {
                return BAD;
            }
        }
        return FITS;
    }

    private boolean owesAlong(int kind, int inches, int row, int i, int n) {
        for (int pair = 0; pair < n; pair++) {
            int street = rows.at(row, i + 2 * pair);
            int told = rows.at(row, i + 2 * pair + 1);
            if (!isStreet(street) || city.owesSuch(kind, inches, street) != told) {
                return false;
            }
        }
        return true;
    }

    private boolean isSeenAlong(int gesture, int row, int i, int n) {
        for (int pair = 0; pair < n; pair++) {
            int street = rows.at(row, i + 2 * pair);
            if (!isStreet(street) || !city.isSeen(gesture, street)) {
                return false;
            }
        }
        return true;
    }

    /**
     * Of 10 to the number of streets from street to last, in how many cases all duty is within the purse.
     * It goes a street deeper with each call of itself, so it ends behind the last one.
     */
    private static int tenthsWithin(City city, int gesture, int street, int last, int purse, int c) {
        if (purse < 0) {
            return 0;
        }
        if (street > last || street < 0 || street >= STREETS) {
            return 1;
        }
        int kind = city.kind[gesture];
        int inches = city.inches[gesture];
        int steady = purse - city.owesSuch(kind, inches, street);
        int trembling = purse - city.owesSuch(kind, inches + 1, street);
        return (10 - c) * tenthsWithin(city, gesture, street + 1, last, steady, c)
                + c * tenthsWithin(city, gesture, street + 1, last, trembling, c);
    }

    private static int commonDivisor(int a, int b) {
        int greater = a;
        int rest = b;
        // Euclid needs fewer than 40 steps for numbers up to ten million.
        for (int step = 0; step < 100 && rest != 0; step++) {
            int next = greater % rest;
            greater = rest;
            rest = next;
        }
        return greater;
    }

    /** The kinds of gestures, and which of them is one of which wider kind. */
    private static final class Kinds {
        static final int GESTURE = 0, WAVE = 1, NOD = 2, BOW = 3, WINK = 4, SHRUG = 5;

        /** By kind; a wider kind has a lower number, so that all ways end at GESTURE. */
        private static final int[] WIDER = {GESTURE, GESTURE, WAVE, WAVE, GESTURE, WINK};

        private Kinds() {
        }

        static int widerThan(int kind) {
            return kind >= 0 && kind < WIDER.length ? WIDER[kind] : GESTURE;
        }

        static boolean isOneOf(int kind, int wanted) {
            int near = kind;
            for (int step = 0; step < WIDER.length && near != wanted; step++) {
                near = widerThan(near);
            }
            return near == wanted;
        }

        /** The kind that a letter of a text stands for; GESTURE, if it stands for none. */
        static int ofLetter(int letter) {
            switch (letter) {
                case 'w': return WAVE;
                case 'n': return NOD;
                case 'b': return BOW;
                case 'k': return WINK;
                case 's': return SHRUG;
                default: return GESTURE;
            }
        }
    }

    /** Rows of items, some of them missing. */
    private static final class Rows {
        static final int BYTES = 0, SHORTS = 1, INTS = 2;
        static final int MOST_ITEMS = 40;

        private static final int ROWS = 8, MISSING = -1;

        private final int[][] items = new int[ROWS][MOST_ITEMS];
        private final int[] lengths = {MISSING, MISSING, MISSING, MISSING, MISSING, MISSING, MISSING, MISSING};
        private final int[] lanes = new int[ROWS];

        static boolean isRow(int row) {
            return row >= 0 && row < ROWS;
        }

        boolean isMissing(int row) {
            return lengths[row] == MISSING;
        }

        boolean areAlike(int a, int b) {
            return lanes[a] == lanes[b];
        }

        /** Written without i + n, that could wrap around. */
        boolean reaches(int row, int i, int n) {
            return i >= 0 && n >= 0 && n <= lengths[row] && i <= lengths[row] - n;
        }

        /** What hinders the use of n items of the row from i on, or FITS. */
        int findingOf(int row, int i, int n) {
            if (isMissing(row)) {
                return NULL;
            }
            return reaches(row, i, n) ? FITS : PLACE;
        }

        void lay(int row, int lane, int n) {
            lengths[row] = n;
            lanes[row] = lane;
            for (int i = 0; i < MOST_ITEMS; i++) {
                items[row][i] = 0;
            }
        }

        int put(int row, int i, int v) {
            items[row][i] = lowestBits(v, lanes[row]);
            return items[row][i];
        }

        int at(int row, int i) {
            return items[row][i];
        }

        void carry(int a, int i, int b, int j, int n) {
            System.arraycopy(items[a], i, items[b], j, n);
        }

        int takeAway(int row) {
            int had = lengths[row];
            lengths[row] = MISSING;
            return had;
        }

        int howMany() {
            int many = 0;
            for (int row = 0; row < ROWS; row++) {
                many += isMissing(row) ? 0 : 1;
            }
            return many;
        }

        private static int lowestBits(int v, int lane) {
            if (lane == BYTES) {
                return (byte) v;
            }
            return lane == SHORTS ? (short) v : v;
        }
    }

    /**
     * All that a text tells of a city, and what has become of it.
     * Who calls it has looked that the city has the street, the gesture.
     */
    private static final class City {
        private static final int WINKED_INCHES = 5, STRICT_ON_SHRUGS = 5, FREE_BOW = 10;

        boolean stands = false;
        int rate = 0;
        int paid = 0;
        int streets = 0;
        int known = 0;
        int gestures = 0;
        final int[] dim = new int[STREETS];
        final int[] strict = new int[STREETS];
        final int[] kind = new int[GESTURES];
        final int[] inches = new int[GESTURES];
        final int[] means = new int[GESTURES];
        final int[] takes = new int[GESTURES];
        final int[] made = new int[GESTURES];

        void begin(int firstRate) {
            stands = true;
            rate = firstRate;
            paid = 0;
            streets = 0;
            known = 0;
            gestures = 0;
        }

        void become(City other) {
            stands = other.stands;
            rate = other.rate;
            paid = other.paid;
            streets = other.streets;
            known = other.known;
            gestures = other.gestures;
            System.arraycopy(other.dim, 0, dim, 0, STREETS);
            System.arraycopy(other.strict, 0, strict, 0, STREETS);
            System.arraycopy(other.kind, 0, kind, 0, GESTURES);
            System.arraycopy(other.inches, 0, inches, 0, GESTURES);
            System.arraycopy(other.means, 0, means, 0, GESTURES);
            System.arraycopy(other.takes, 0, takes, 0, GESTURES);
            System.arraycopy(other.made, 0, made, 0, GESTURES);
        }

        boolean isKnown(int street) {
            return (known >> street & 1) == 1;
        }

        void turnKnown(int street) {
            known ^= 1 << street;
        }

        int owes(int gesture, int street) {
            return owesSuch(kind[gesture], inches[gesture], street);
        }

        int owesIfKnown(int gesture, int street) {
            return owesUnknown(kind[gesture], inches[gesture], street) / 2;
        }

        /** The duty in a street of a gesture that is of such a kind and so long. */
        int owesSuch(int suchKind, int suchInches, int street) {
            int whole = owesUnknown(suchKind, suchInches, street);
            return isKnown(street) ? whole / 2 : whole;
        }

        private int owesUnknown(int suchKind, int suchInches, int street) {
            int wave = suchInches * rate + suchInches * strict[street] / 10;
            switch (suchKind) {
                case Kinds.WAVE: return wave;
                case Kinds.NOD: return wave / 2;
                case Kinds.BOW: return wave + rate * Math.max(0, suchInches - FREE_BOW);
                case Kinds.SHRUG: return strict[street] >= STRICT_ON_SHRUGS ? wave : 1;
                default: return 1;
            }
        }

        boolean isSeen(int gesture, int street) {
            boolean isWinked = kind[gesture] == Kinds.WINK || kind[gesture] == Kinds.SHRUG;
            return inches[gesture] + (isWinked ? WINKED_INCHES : 0) >= dim[street];
        }

        boolean tells(int gesture, int meaning, int street) {
            return means[gesture] == meaning && isSeen(gesture, street);
        }

        int streetsThatSee(int gesture) {
            int bits = 0;
            for (int street = 0; street < streets; street++) {
                bits |= isSeen(gesture, street) ? 1 << street : 0;
            }
            return bits;
        }

        int gesturesSeenIn(int street) {
            int bits = 0;
            for (int gesture = 0; gesture < gestures; gesture++) {
                bits |= isSeen(gesture, street) ? 1 << gesture : 0;
            }
            return bits;
        }

        int streetsWithout(int meaning) {
            int bits = 0;
            for (int street = 0; street < streets; street++) {
                bits |= leastTime(meaning, street) == NONE ? 1 << street : 0;
            }
            return bits;
        }

        /** The least that a gesture takes by which such a thing can be told in a street; NONE. */
        int leastTime(int meaning, int street) {
            int least = NONE;
            for (int gesture = 0; gesture < gestures; gesture++) {
                if (tells(gesture, meaning, street) && (least == NONE || takes[gesture] < least)) {
                    least = takes[gesture];
                }
            }
            return least;
        }

        int dearestStreet(int gesture) {
            int dearest = 0;
            for (int street = 1; street < streets; street++) {
                if (owes(gesture, street) > owes(gesture, dearest)) {
                    dearest = street;
                }
            }
            return dearest;
        }
    }

    /** The tape, and how a city is read from it. */
    private static final class Reader {
        private static final int TAPE = 120, MOST_FIGURES = 2;
        private static final int NO_FAULT = 0, MISPLACED = 1, NOT_AS_TOLD = 2, NO_ROOM = 3;

        private final int[] tape = new int[TAPE];
        int length = 0;
        int lastFault = NO_FAULT;
        int faultPlace = 0;
        private int fault = NO_FAULT;
        private int at = 0;

        boolean isFull() {
            return length >= TAPE;
        }

        int append(int letter) {
            if (!isFull()) {
                tape[length] = letter;
                length++;
            }
            return length;
        }

        /** Whether the tape, that is empty then, tells a city; if so, the draft is that city. */
        boolean reads(City draft) {
            fault = NO_FAULT;
            at = 0;
            readLaw(draft);
            // Each street and each gesture has a byte at least, so no text has more of them than the tape has bytes.
            for (int i = 0; i < TAPE && fault == NO_FAULT && next() == 'r'; i++) {
                readStreet(draft);
            }
            for (int i = 0; i < TAPE && fault == NO_FAULT && Kinds.ofLetter(next()) != Kinds.GESTURE; i++) {
                readGesture(draft);
            }
            if (at < length) {
                fail(MISPLACED);
            }
            length = 0;
            return fault == NO_FAULT;
        }

        private void readLaw(City draft) {
            readSign('d');
            draft.begin(readNumber(1, MOST_RATE));
            readSign(';');
        }

        private void readStreet(City draft) {
            if (draft.streets >= STREETS) {
                fail(NO_ROOM);
                return;
            }
            int street = draft.streets;
            readSign('r');
            draft.dim[street] = readNumber(0, MOST_DIM);
            readSign(',');
            draft.strict[street] = readNumber(0, MOST_STRICT);
            readSign(';');
            draft.streets++;
        }

        private void readGesture(City draft) {
            if (draft.gestures >= GESTURES) {
                fail(NO_ROOM);
                return;
            }
            int gesture = draft.gestures;
            draft.kind[gesture] = Kinds.ofLetter(next());
            at++;
            draft.inches[gesture] = readNumber(1, MOST_INCHES);
            readSign(',');
            draft.means[gesture] = readNumber(0, MEANINGS - 1);
            readSign(',');
            draft.takes[gesture] = readNumber(1, MOST_TAKES);
            readSign(';');
            draft.made[gesture] = 0;
            draft.gestures++;
        }

        /** The byte that comes next; -1 at the end. */
        private int next() {
            return at >= 0 && at < length && at < TAPE ? tape[at] : -1;
        }

        private void readSign(int sign) {
            if (next() != sign) {
                fail(MISPLACED);
            }
            at++;
        }

        private int readNumber(int least, int most) {
            int figures = 0;
            int number = 0;
            int first = at;
            for (int i = 0; i < TAPE && isWithin(next(), '0', '9'); i++) {
                // Of a longer run the value is not asked for, and it would wrap around.
                number = figures < MOST_FIGURES ? number * 10 + next() - '0' : number;
                figures++;
                at++;
            }
            if (figures == 0 || figures > MOST_FIGURES) {
                failAt(first, MISPLACED);
            } else if (!isWithin(number, least, most)) {
                failAt(first, NOT_AS_TOLD);
            }
            return number;
        }

        private void fail(int number) {
            failAt(at, number);
        }

        /** Only the first fault of a text counts: what is read behind it means nothing. */
        private void failAt(int place, int number) {
            if (fault == NO_FAULT) {
                fault = number;
                lastFault = number;
                faultPlace = place;
            }
        }
    }

    /** The latest acts, in a ring: of more than it keeps the oldest is forgotten. */
    private static final class Acts {
        static final int MADE = 0, DIMMED = 1, TRAINED = 2, KNOWN = 3;

        private static final int KEPT = 24;

        private final int[] deeds = new int[KEPT];
        private final int[] whats = new int[KEPT];
        private final int[] values = new int[KEPT];
        private int nextSlot = 0;
        int kept = 0;

        void forgetAll() {
            kept = 0;
        }

        /** The gesture or street that was acted on, and what the undoing needs: duty, DIM before, inches less. */
        void keep(int deed, int what, int value) {
            deeds[nextSlot] = deed;
            whats[nextSlot] = what;
            values[nextSlot] = value;
            nextSlot = (nextSlot + 1) % KEPT;
            kept = Math.min(kept + 1, KEPT);
        }

        /** The latest act is taken back; the caller has looked that one is kept. */
        void takeBack(City city) {
            nextSlot = (nextSlot + KEPT - 1) % KEPT;
            kept--;
            int what = whats[nextSlot];
            int value = values[nextSlot];
            switch (deeds[nextSlot]) {
                case MADE:
                    city.made[what]--;
                    city.paid -= value;
                    break;
                case DIMMED:
                    city.dim[what] = value;
                    break;
                case TRAINED:
                    city.inches[what] += value;
                    break;
                case KNOWN:
                    city.turnKnown(what);
                    break;
                default:
                    break;
            }
        }
    }

    /** Finds the cheapest row of gestures through streets in time. */
    private static final class Teller {
        private static final int IMPOSSIBLE = 1000000;

        /** The least duty from a street on to the last one, by street and by the time that is left. */
        private final int[][] least = new int[STREETS + 1][MOST_TIME + 1];

        int leastDuty(City city, int means, int a, int b, int t) {
            fill(city, means, a, b, t);
            return least[a][t] < IMPOSSIBLE ? least[a][t] : NONE;
        }

        int gestureOfCheapest(City city, int means, int a, int b, int t, int k) {
            fill(city, means, a, b, t);
            if (k > b - a || least[a][t] >= IMPOSSIBLE) {
                return NONE;
            }
            int left = t;
            int gesture = NONE;
            for (int street = a; street <= a + k; street++) {
                gesture = firstOfCheapest(city, means, street, left);
                if (gesture == NONE) {
                    return NONE;
                }
                left -= city.takes[gesture];
            }
            return gesture;
        }

        private void fill(City city, int means, int a, int b, int t) {
            for (int time = 0; time <= t; time++) {
                least[b + 1][time] = 0;
            }
            for (int street = b; street >= a; street--) {
                for (int time = 0; time <= t; time++) {
                    least[street][time] = IMPOSSIBLE;
                }
                for (int gesture = 0; gesture < city.gestures; gesture++) {
                    if (city.tells(gesture, means, street)) {
                        offer(city.owes(gesture, street), city.takes[gesture], street, t);
                    }
                }
            }
        }

        /** A gesture that can be made in the street: where a row that begins with it is cheaper, it is taken. */
        private void offer(int owed, int takes, int street, int t) {
            for (int time = takes; time <= t; time++) {
                least[street][time] = Math.min(least[street][time], owed + least[street + 1][time - takes]);
            }
        }

        private int firstOfCheapest(City city, int means, int street, int left) {
            for (int gesture = 0; gesture < city.gestures; gesture++) {
                int after = left - city.takes[gesture];
                if (after >= 0 && city.tells(gesture, means, street)
                        && city.owes(gesture, street) + least[street + 1][after] == least[street][left]) {
                    return gesture;
                }
            }
            return NONE;
        }
    }

    /** Asks of gestures, answered by bodies that leave their numbers in the trace. */
    private static final class Asks {
        static final int SIZE = 0, MARK = 1;

        private static final int TRACED = 16, NO_BODY = 0, FIRST_OF_MARK = 20;

        /** Far more bodies than stand open in any ask: five at most. */
        private static final int DEEPEST = 16;

        /** The body that is told for a kind itself. */
        private static final int[] SIZE_BODIES = {10, 11, 12, NO_BODY, 13, 14};
        private static final int[] MARK_BODIES = {20, 21, 24, 22, 23, NO_BODY};

        private final int[] numbers = new int[TRACED];
        private int left = 0;

        int answer(City city, int gesture, int what) {
            left = 0;
            return asked(city, gesture, what, 0);
        }

        int numberLeft(int i) {
            return i >= 0 && i < left ? numbers[i] : NONE;
        }

        private int asked(City city, int gesture, int what, int depth) {
            int[] bodies = what == SIZE ? SIZE_BODIES : MARK_BODIES;
            return given(bodyFor(bodies, city.kind[gesture]), city, gesture, depth);
        }

        private static int bodyFor(int[] bodies, int kind) {
            int near = kind;
            for (int step = 0; step < bodies.length; step++) {
                if (near >= 0 && near < bodies.length && bodies[near] != NO_BODY) {
                    return bodies[near];
                }
                near = Kinds.widerThan(near);
            }
            return NO_BODY;
        }

        /** What a body gives, that leaves its number as it begins. */
        private int given(int body, City city, int gesture, int depth) {
            if (depth >= DEEPEST) {
                return 0;
            }
            leave(body);
            if (body < FIRST_OF_MARK) {
                return sizeBy(body, city, gesture, depth + 1);
            }
            return markBy(body, city, gesture, depth + 1);
        }

        private int sizeBy(int body, City city, int gesture, int depth) {
            switch (body) {
                case 10: return city.takes[gesture];
                case 11: return given(10, city, gesture, depth) + asked(city, gesture, MARK, depth);
                case 12: return -given(11, city, gesture, depth);
                case 13: return given(10, city, gesture, depth) - 100;
                case 14: return 2 * given(13, city, gesture, depth);
                default: return 0;
            }
        }

        private int markBy(int body, City city, int gesture, int depth) {
            switch (body) {
                case 20: return gesture;
                case 21: return given(20, city, gesture, depth) + city.inches[gesture];
                case 22: return given(21, city, gesture, depth) - 1000;
                case 23: return given(20, city, gesture, depth) - asked(city, gesture, SIZE, depth);
                case 24: return 2 * given(21, city, gesture, depth);
                default: return 0;
            }
        }

        private void leave(int body) {
            if (left < TRACED) {
                numbers[left] = body;
                left++;
            }
        }
    }
}
