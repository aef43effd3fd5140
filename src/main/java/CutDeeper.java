import java.util.Arrays;

/** Keys that may be filed deeper and never made whole, and the locks that open to them. */
public final class CutDeeper {
    public static final int NONE = -1;

    private static final int BAD = -2;
    private static final int OTHER = -3;
    private static final int NOTHING = -4;
    private static final int STUCK = -5;
    private static final int FULL = -6;
    private static final int REFUSAL_SORTS = 5;

    private static final int KEY = 0;
    private static final int WORN = 1;
    private static final int THIN = 2;
    private static final int WARDED = 3;
    private static final int BLANK = 4;
    private static final int MASTER = 5;

    private static final int BYTES = 0;
    private static final int SHORTS = 1;
    private static final int INTS = 2;
    private static final int BOOLEANS = 4;
    private static final int FIRST_KEY_HELD = 10;

    private static final int MOST_PLACES = 5;
    private static final int MOST_DEEP = 4;
    private static final int MOST_STRENGTH = 20;
    private static final int MOST_KEYS = 6;
    private static final int MOST_A = 9;
    private static final int MOST_LOCKS = 8;
    private static final int MOST_LETTERS = 250;
    private static final int MOST_SHELVES = 8;
    private static final int MOST_ELEMENTS = 40;
    private static final int MOST_DAYS = 40;
    /** How many depths there can be, 0 among them. */
    private static final int DEPTHS = MOST_DEEP + 1;
    /** DEPTHS to the power of MOST_PLACES: no walk over rows takes more steps. */
    private static final int MOST_ROWS = 3125;

    private static final int FIRST_CUT = 10;
    private static final int FIRST_DEPTH = 20;
    private static final int FIRST_FAULT = -20;

    private final House house = new House();
    private final House kept = new House();
    private final House draft = new House();
    private final Thought thought = new Thought(house);
    private final Tape tape = new Tape();
    private final Shelf[] shelves = new Shelf[MOST_SHELVES];
    private final Shelf noShelf = new Shelf();
    private final int[] refusals = new int[REFUSAL_SORTS];
    private boolean isKept = false;

    public CutDeeper() {
        for (int s = 0; s < MOST_SHELVES; s++) {
            shelves[s] = new Shelf();
        }
    }

    public int row(int s, int sort, int n) {
        if (!isShelf(s) || !isWithin(sort, BYTES, BOOLEANS) || !isWithin(n, 0, MOST_ELEMENTS)) {
            return refuse(BAD);
        }
        shelfAt(s).beginRow(sort, n);
        return 1;
    }

    public int set(int s, int i, long v) {
        if (!isShelf(s)) {
            return refuse(BAD);
        }
        Shelf shelf = shelfAt(s);
        if (!shelf.isRow()) {
            return refuse(shelf.whyNoRow());
        }
        if (!isWithin(i, 0, shelf.size - 1)) {
            return refuse(BAD);
        }
        shelf.putElement(i, v);
        return 1;
    }

    public int copy(int p, int q, int i, int j, int n) {
        if (!isShelf(p) || !isShelf(q)) {
            return refuse(BAD);
        }
        Shelf from = shelfAt(p);
        Shelf to = shelfAt(q);
        if (from.isKey() || to.isKey()) {
            return refuse(OTHER);
        }
        if (!from.isRow() || !to.isRow()) {
            return refuse(NOTHING);
        }
        if (from.holding != to.holding) {
            return refuse(OTHER);
        }
        if (!from.hasPart(i, n) || !to.hasPart(j, n)) {
            return refuse(BAD);
        }
        System.arraycopy(from.elements, i, to.elements, j, n);
        return n;
    }

    public long element(int s, int i) {
        return shelfAt(s).elementAt(i);
    }

    public int holds(int s) {
        return shelfAt(s).holding;
    }

    public int show(int s, int key) {
        if (!isShelf(s) || key != NONE && !isKey(key)) {
            return refuse(BAD);
        }
        shelfAt(s).holding = key == NONE ? NONE : FIRST_KEY_HELD + key;
        return 1;
    }

    public int says(int s, int kind) {
        if (!isShelf(s) || !isWithin(kind, KEY, MASTER)) {
            return refuse(BAD);
        }
        Shelf shelf = shelfAt(s);
        if (shelf.isRow()) {
            return refuse(OTHER);
        }
        if (!shelf.isKey()) {
            return refuse(NOTHING);
        }
        int number = shelf.holding - FIRST_KEY_HELD;
        if (!house.keyAt(number).isOfKind(kind)) {
            return refuse(OTHER);
        }
        return saysAs(number, kind);
    }

    public int ask(int what, int v) {
        switch (what) {
            case 0:
                return askPlaces(v);
            case 1:
                return askDeep(v);
            case 2:
                return askStrength(v);
            default:
                return refuse(BAD);
        }
    }

    public int key(int kind, int a) {
        if (!isWithin(kind, KEY, MASTER) || !isWithin(a, 0, MOST_A)) {
            return refuse(BAD);
        }
        int number = house.addKey(kind, a);
        return number == NONE ? refuse(FULL) : number;
    }

    public int lock(boolean ward) {
        int number = house.addLock(ward);
        return number == NONE ? refuse(FULL) : number;
    }

    public int asks(int lock, int place, int v) {
        if (!isLock(lock) || !isPlace(place) || !isWithin(v, 0, house.deep)) {
            return refuse(BAD);
        }
        int before = house.asksAt(lock, place);
        house.putAsks(lock, place, v);
        return before;
    }

    public int may(int key, int lock, boolean is) {
        if (!isKey(key) || !isLock(lock)) {
            return refuse(BAD);
        }
        return house.keyAt(key).allow(lock, is) ? 1 : 0;
    }

    public int file(int key, int place) {
        if (!isKey(key) || !isPlace(place)) {
            return refuse(BAD);
        }
        Key filed = house.keyAt(key);
        if (filed.kind == BLANK || !house.deepen(filed, place)) {
            return refuse(STUCK);
        }
        int coins = at(filed.cut, place);
        house.coins += coins;
        return coins;
    }

    public int feed(int letter) {
        if (!isWithin(letter, 0, 255)) {
            return refuse(BAD);
        }
        return tape.add(letter) ? tape.size : refuse(FULL);
    }

    public int wipe() {
        int before = tape.size;
        tape.size = 0;
        return before;
    }

    public int house() {
        draft.take(house);
        int statements = tape.readInto(draft);
        tape.size = 0;
        if (statements == NONE) {
            refuse(BAD);
            return FIRST_FAULT - tape.start;
        }
        house.take(draft);
        return statements;
    }

    public int keyOf(int key, int what) {
        if (!isKey(key)) {
            return refuse(BAD);
        }
        Key told = house.keyAt(key);
        if (isPlace(what - FIRST_CUT)) {
            return at(told.cut, what - FIRST_CUT);
        }
        if (isPlace(what - FIRST_DEPTH)) {
            return house.depth(told, told.cut, what - FIRST_DEPTH);
        }
        switch (what) {
            case 0:
                return told.kind;
            case 1:
                return told.a;
            case 2:
                return house.sum(told.cut);
            case 3:
                return house.breaks(told, told.cut) ? 1 : 0;
            case 4:
                return told.may;
            default:
                return refuse(BAD);
        }
    }

    public int lockOf(int lock, int what) {
        if (!isLock(lock)) {
            return refuse(BAD);
        }
        if (isPlace(what - FIRST_CUT)) {
            return house.asksAt(lock, what - FIRST_CUT);
        }
        switch (what) {
            case 0:
                return house.hasWard(lock) ? 1 : 0;
            case 1:
                return house.asksTogether(lock);
            default:
                return refuse(BAD);
        }
    }

    public int opens(int key, int lock, int what) {
        if (!isKey(key) || !isLock(lock) || !isWithin(what, 0, 1)) {
            return refuse(BAD);
        }
        Key tried = house.keyAt(key);
        int locks = what == 0 ? house.fitted(tried, tried.cut) : house.openedBy(key);
        return hasBit(locks, lock) ? 1 : 0;
    }

    public int opened(int key) {
        return isKey(key) ? house.openedBy(key) : refuse(BAD);
    }

    public int who(int lock) {
        return isLock(lock) ? house.openersOf(lock) : refuse(BAD);
    }

    public int wrong() {
        for (int key = 0; key < house.keyCount; key++) {
            int differing = house.openedBy(key) ^ house.keyAt(key).may;
            for (int lock = 0; lock < house.lockCount; lock++) {
                if (hasBit(differing, lock)) {
                    return 10 * key + lock;
                }
            }
        }
        return NONE;
    }

    public int wrongs() {
        int pairs = 0;
        for (int key = 0; key < house.keyCount; key++) {
            pairs += Integer.bitCount(house.openedBy(key) ^ house.keyAt(key).may);
        }
        return pairs;
    }

    public int judge(int s) {
        int trouble = listTrouble(s);
        if (trouble != 0) {
            return refuse(trouble);
        }
        for (int key = 0; key < house.keyCount; key++) {
            if (house.openedBy(key) != toldLocks(s, key)) {
                return key;
            }
        }
        return NONE;
    }

    public int list(int s) {
        int trouble = listTrouble(s);
        if (trouble != 0) {
            return refuse(trouble);
        }
        for (int key = 0; key < house.keyCount; key++) {
            house.keyAt(key).may = toldLocks(s, key);
        }
        return house.keyCount;
    }

    public int cuts(int locks, int place) {
        if (!isLocks(locks) || place != NONE && !isPlace(place)) {
            return refuse(BAD);
        }
        int gone = thought.leastCuts(locks);
        return gone == NONE || place == NONE ? gone : thought.foundAt(place);
    }

    public int asked(int keys, int place) {
        if (!isKeys(keys) || place != NONE && !isPlace(place)) {
            return refuse(BAD);
        }
        int together = thought.leastAsks(keys);
        return together == NONE || place == NONE ? together : thought.foundAt(place);
    }

    public int toOpen(int key, int lock) {
        return isKey(key) && isLock(lock) ? thought.coinsToOpen(key, lock) : refuse(BAD);
    }

    public int safe(int lock) {
        return isLock(lock) ? thought.safeFrom(lock) : refuse(BAD);
    }

    public int safest() {
        int first = NONE;
        int most = NONE;
        for (int lock = 0; lock < house.lockCount; lock++) {
            int keys = Integer.bitCount(thought.safeFrom(lock));
            if (keys > most) {
                most = keys;
                first = lock;
            }
        }
        return first;
    }

    public int mended(int what) {
        if (!isWithin(what, 0, 1)) {
            return refuse(BAD);
        }
        thought.planMending();
        return what == 0 ? thought.mendingCoins() : thought.pastMending();
    }

    public int left(int key) {
        if (!isKey(key)) {
            return refuse(BAD);
        }
        Key told = house.keyAt(key);
        return Math.max(0, house.bears(told) - house.sum(told.cut));
    }

    public int idle(int place) {
        if (!isPlace(place)) {
            return refuse(BAD);
        }
        return Integer.bitCount(house.locksWithin(place, 0));
    }

    public int together(int key, int other) {
        if (!isKey(key) || !isKey(other) || key == other) {
            return refuse(BAD);
        }
        return thought.openedTogether(key, other);
    }

    public int pair() {
        return house.keyCount < 2 ? refuse(STUCK) : thought.bestPair();
    }

    public int unlike() {
        return thought.rowsOfHalf();
    }

    public int alike() {
        for (int one = 0; one < house.lockCount; one++) {
            for (int other = 0; other < house.lockCount; other++) {
                if (one != other && house.asksAsMuch(one, other)) {
                    return 10 * one + other;
                }
            }
        }
        return NONE;
    }

    public int over(int key) {
        return isKey(key) ? thought.keysOver(key) : refuse(BAD);
    }

    public int chain() {
        return thought.longestChain();
    }

    public int ward(int lock) {
        if (!isLock(lock)) {
            return refuse(BAD);
        }
        return house.hasWard(lock) ? refuse(STUCK) : thought.lostByWard(lock);
    }

    public int found(int s, int locks) {
        if (!isShelf(s) || !isLocks(locks)) {
            return refuse(BAD);
        }
        Shelf shelf = shelfAt(s);
        if (!shelf.isRow()) {
            return refuse(shelf.whyNoRow());
        }
        if (!tellsCuts(shelf)) {
            return refuse(BAD);
        }
        for (int place = 0; place < house.places; place++) {
            thought.tellCut(place, (int) shelf.elementAt(place));
        }
        return thought.keysOfTold(locks);
    }

    public int many(int locks) {
        return isLocks(locks) ? thought.rowsFor(locks) : refuse(BAD);
    }

    public int use(int key, int lock) {
        if (!isKey(key) || !isLock(lock)) {
            return refuse(BAD);
        }
        if (!hasBit(house.openedBy(key), lock)) {
            return refuse(STUCK);
        }
        return house.wear(house.keyAt(key)) ? 1 : 0;
    }

    public int days(int n) {
        if (!isWithin(n, 1, MOST_DAYS)) {
            return refuse(BAD);
        }
        if (house.keyCount == 0 || house.lockCount == 0) {
            return refuse(STUCK);
        }
        int uses = 0;
        for (int day = 0; day < n; day++) {
            if (house.passDay()) {
                uses++;
            }
        }
        return uses;
    }

    public int renew(int key) {
        if (!isKey(key)) {
            return refuse(BAD);
        }
        Key old = house.keyAt(key);
        if (!house.breaks(old, old.cut)) {
            return refuse(STUCK);
        }
        int before = old.kind;
        old.kind = KEY;
        Arrays.fill(old.cut, 0);
        return before;
    }

    public int mend() {
        thought.planMending();
        thought.doMending();
        int coins = thought.mendingCoins();
        house.coins += coins;
        return coins;
    }

    public int seed(int v) {
        int before = house.seed;
        house.seed = v;
        return before;
    }

    public int image() {
        kept.take(house);
        isKept = true;
        return 1;
    }

    public int back() {
        if (!isKept) {
            return refuse(STUCK);
        }
        house.take(kept);
        for (int s = 0; s < MOST_SHELVES; s++) {
            shelfAt(s).dropKeysFrom(house.keyCount);
        }
        return 1;
    }

    public int status(int what) {
        switch (what) {
            case 0:
                return house.keyCount;
            case 1:
                return house.lockCount;
            case 2:
                return house.places;
            case 3:
                return house.deep;
            case 4:
                return house.strength;
            case 5:
                return house.coins;
            case 6:
                return house.brokenKeys();
            case 7:
                return house.wards;
            case 8:
                return tape.size;
            case 9:
                return house.seed;
            case 10:
                return shelvesInUse();
            default:
                return isWithin(what, 12, 16) ? at(refusals, what - 12) : NONE;
        }
    }

    private int refuse(int number) {
        int sort = BAD - number;
        put(refusals, sort, at(refusals, sort) + 1);
        return number;
    }

    private static boolean isWithin(int v, int least, int most) {
        return v >= least && v <= most;
    }

    private static int at(int[] row, int i) {
        return i >= 0 && i < row.length ? row[i] : 0;
    }

    private static void put(int[] row, int i, int v) {
        if (i >= 0 && i < row.length) {
            row[i] = v;
        }
    }

    private static boolean hasBit(int bits, int i) {
        return (bits >> i & 1) != 0;
    }

    /** The bits of the first few numbers, all of them. */
    private static int firstBits(int count) {
        return (1 << count) - 1;
    }

    private boolean isShelf(int s) {
        return isWithin(s, 0, MOST_SHELVES - 1);
    }

    private boolean isKey(int key) {
        return isWithin(key, 0, house.keyCount - 1);
    }

    private boolean isLock(int lock) {
        return isWithin(lock, 0, house.lockCount - 1);
    }

    private boolean isPlace(int place) {
        return isWithin(place, 0, house.places - 1);
    }

    private boolean isLocks(int bits) {
        return isWithin(bits, 0, firstBits(house.lockCount));
    }

    private boolean isKeys(int bits) {
        return isWithin(bits, 0, firstBits(house.keyCount));
    }

    /** A shelf; where there is none, one that holds nothing. */
    private Shelf shelfAt(int s) {
        return s >= 0 && s < shelves.length ? shelves[s] : noShelf;
    }

    private int shelvesInUse() {
        int count = 0;
        for (int s = 0; s < MOST_SHELVES; s++) {
            if (shelfAt(s).holding != NONE) {
                count++;
            }
        }
        return count;
    }

    private int saysAs(int number, int kind) {
        Key key = house.keyAt(number);
        switch (kind) {
            case KEY:
                return house.sum(key.cut);
            case WORN:
                return house.wornPlace(key);
            case WARDED:
                return Integer.bitCount(house.openedBy(number) & house.wards);
            case MASTER:
                return thought.countBelow(number);
            default:
                return house.bears(key);
        }
    }

    private int askPlaces(int v) {
        if (!isWithin(v, 1, MOST_PLACES)) {
            return refuse(BAD);
        }
        if (!house.isEmpty()) {
            return refuse(STUCK);
        }
        int before = house.places;
        house.places = v;
        return before;
    }

    private int askDeep(int v) {
        if (!isWithin(v, 1, MOST_DEEP)) {
            return refuse(BAD);
        }
        if (!house.isEmpty()) {
            return refuse(STUCK);
        }
        int before = house.deep;
        house.deep = v;
        return before;
    }

    private int askStrength(int v) {
        if (!isWithin(v, 1, MOST_STRENGTH)) {
            return refuse(BAD);
        }
        int before = house.strength;
        house.strength = v;
        return before;
    }

    /** Why the shelf has no told list for all keys; 0 if it has one. */
    private int listTrouble(int s) {
        if (!isShelf(s)) {
            return BAD;
        }
        Shelf shelf = shelfAt(s);
        if (!shelf.isRow()) {
            return shelf.whyNoRow();
        }
        return shelf.size < house.keyCount ? BAD : 0;
    }

    private int toldLocks(int s, int key) {
        return (int) shelfAt(s).elementAt(key) & firstBits(house.lockCount);
    }

    private boolean tellsCuts(Shelf shelf) {
        if (shelf.size < house.places) {
            return false;
        }
        for (int place = 0; place < house.places; place++) {
            long told = shelf.elementAt(place);
            if (told < 0 || told > house.deep) {
                return false;
            }
        }
        return true;
    }

    /** What a shelf holds: nothing, a row, or the number of a key. */
    private static final class Shelf {
        /** NONE: nothing; a row's sort; or FIRST_KEY_HELD and a key's number. */
        int holding = NONE;
        int size = 0;
        final long[] elements = new long[MOST_ELEMENTS];

        boolean isKey() {
            return holding >= FIRST_KEY_HELD;
        }

        boolean isRow() {
            return isWithin(holding, BYTES, BOOLEANS);
        }

        int whyNoRow() {
            return isKey() ? OTHER : NOTHING;
        }

        void beginRow(int sort, int n) {
            holding = sort;
            size = n;
            Arrays.fill(elements, 0L);
        }

        boolean hasElement(int i) {
            return isRow() && i >= 0 && i < size && i < elements.length;
        }

        long elementAt(int i) {
            return hasElement(i) ? elements[i] : 0L;
        }

        void putElement(int i, long v) {
            if (hasElement(i)) {
                elements[i] = narrowed(v);
            }
        }

        long narrowed(long v) {
            switch (holding) {
                case BYTES:
                    return (byte) v;
                case SHORTS:
                    return (short) v;
                case INTS:
                    return (int) v;
                case BOOLEANS:
                    return v != 0L ? 1L : 0L;
                default:
                    return v;
            }
        }

        /** Compares without a sum, for that could wrap. */
        boolean hasPart(int i, int n) {
            return n >= 0 && n <= size && i >= 0 && i <= size - n;
        }

        void dropKeysFrom(int keyCount) {
            if (holding - FIRST_KEY_HELD >= keyCount) {
                holding = NONE;
            }
        }
    }

    /** One key: its kind, what it may open, how deep it is cut. */
    private static final class Key {
        int kind = KEY;
        int a = 0;
        int may = 0;
        final int[] cut = new int[MOST_PLACES];

        void begin(int newKind, int newA) {
            kind = newKind;
            a = newA;
            may = 0;
            Arrays.fill(cut, 0);
        }

        void take(Key other) {
            kind = other.kind;
            a = other.a;
            may = other.may;
            System.arraycopy(other.cut, 0, cut, 0, MOST_PLACES);
        }

        /** Whether it is of a kind or of one under it. */
        boolean isOfKind(int wanted) {
            if (wanted == KEY || wanted == kind) {
                return true;
            }
            return wanted == THIN && kind == BLANK || wanted == WARDED && kind == MASTER;
        }

        /** Whether that changed anything. */
        boolean allow(int lock, boolean is) {
            int bit = 1 << lock;
            int before = may;
            may = is ? may | bit : may & ~bit;
            return may != before;
        }
    }

    /** All that an image keeps, and what opens what in it. */
    private static final class House {
        int places = 3;
        int deep = 3;
        int strength = 12;
        int coins = 0;
        int seed = 1;
        int keyCount = 0;
        int lockCount = 0;
        /** The locks with a ward, as bits. */
        int wards = 0;
        final Key[] keys = new Key[MOST_KEYS];
        final Key noKey = new Key();
        /** What each lock asks, MOST_PLACES elements a lock. */
        final int[] askRows = new int[MOST_LOCKS * MOST_PLACES];
        /** The locks (bits) that ask no more than a depth at a place: walks over all rows look here. */
        final int[] within = new int[MOST_PLACES * DEPTHS];

        House() {
            for (int key = 0; key < MOST_KEYS; key++) {
                keys[key] = new Key();
            }
        }

        void take(House other) {
            places = other.places;
            deep = other.deep;
            strength = other.strength;
            coins = other.coins;
            seed = other.seed;
            keyCount = other.keyCount;
            lockCount = other.lockCount;
            wards = other.wards;
            for (int key = 0; key < MOST_KEYS; key++) {
                keyAt(key).take(other.keyAt(key));
            }
            System.arraycopy(other.askRows, 0, askRows, 0, askRows.length);
            System.arraycopy(other.within, 0, within, 0, within.length);
        }

        boolean isEmpty() {
            return keyCount == 0 && lockCount == 0;
        }

        Key keyAt(int key) {
            return key >= 0 && key < keys.length ? keys[key] : noKey;
        }

        int addKey(int kind, int a) {
            if (keyCount >= MOST_KEYS) {
                return NONE;
            }
            keyAt(keyCount).begin(kind, a);
            keyCount++;
            return keyCount - 1;
        }

        int addLock(boolean hasWard) {
            if (lockCount >= MOST_LOCKS) {
                return NONE;
            }
            int lock = lockCount;
            lockCount++;
            wards = hasWard ? wards | 1 << lock : wards;
            for (int place = 0; place < MOST_PLACES; place++) {
                putAsks(lock, place, 0);
            }
            return lock;
        }

        boolean hasWard(int lock) {
            return hasBit(wards, lock);
        }

        int asksAt(int lock, int place) {
            return at(askRows, lock * MOST_PLACES + place);
        }

        void putAsks(int lock, int place, int v) {
            put(askRows, lock * MOST_PLACES + place, v);
            int bit = 1 << lock;
            for (int depth = 0; depth < DEPTHS; depth++) {
                int others = locksWithin(place, depth) & ~bit;
                put(within, place * DEPTHS + depth, depth >= v ? others | bit : others);
            }
        }

        int locksWithin(int place, int depth) {
            return at(within, place * DEPTHS + depth);
        }

        int asksTogether(int lock) {
            int together = 0;
            for (int place = 0; place < places; place++) {
                together += asksAt(lock, place);
            }
            return together;
        }

        boolean asksAsMuch(int one, int other) {
            for (int place = 0; place < places; place++) {
                if (asksAt(one, place) < asksAt(other, place)) {
                    return false;
                }
            }
            return true;
        }

        int sum(int[] row) {
            int sum = 0;
            for (int place = 0; place < places && place < row.length; place++) {
                sum += row[place];
            }
            return sum;
        }

        /** How much of a key can be gone before it breaks. */
        int bears(Key key) {
            if (key.kind != THIN && key.kind != BLANK) {
                return strength;
            }
            return strength > key.a ? strength - key.a : 0;
        }

        boolean breaks(Key key, int[] row) {
            return sum(row) > bears(key);
        }

        int wornPlace(Key key) {
            return key.kind == WORN && places > 0 ? key.a % places : NONE;
        }

        int depth(Key key, int[] row, int place) {
            int cut = at(row, place);
            return cut < deep && place == wornPlace(key) ? cut + 1 : cut;
        }

        /** The locks (bits) that a key would fit, if it were cut like this row. */
        int fitted(Key key, int[] row) {
            int locks = firstBits(lockCount);
            int worn = wornPlace(key);
            for (int place = 0; place < places; place++) {
                int cut = at(row, place);
                int depth = cut < deep && place == worn ? cut + 1 : cut;
                locks &= at(within, place * DEPTHS + depth);
            }
            return locks;
        }

        /** The locks (bits) that a key would open by its own cuts, if it were cut like this row. */
        int openedByCuts(Key key, int[] row) {
            if (breaks(key, row)) {
                return 0;
            }
            int locks = fitted(key, row);
            return key.isOfKind(WARDED) ? locks : locks & ~wards;
        }

        /** What a master opens besides, as long as it isn't broken; of other kinds: nothing. */
        int openedBesides(Key master) {
            int locks = 0;
            for (int key = 0; key < keyCount && master.kind == MASTER; key++) {
                Key other = keyAt(key);
                if (other.kind == KEY) {
                    locks |= openedByCuts(other, other.cut);
                }
            }
            return locks;
        }

        /** The locks (bits) that a key would open, if it were cut like this row, with what it opens besides. */
        int openedAs(Key key, int[] row, int besides) {
            return breaks(key, row) ? 0 : openedByCuts(key, row) | besides;
        }

        int openedBy(int number) {
            Key key = keyAt(number);
            return openedAs(key, key.cut, openedBesides(key));
        }

        int openersOf(int lock) {
            int openers = 0;
            for (int key = 0; key < keyCount; key++) {
                if (hasBit(openedBy(key), lock)) {
                    openers |= 1 << key;
                }
            }
            return openers;
        }

        int brokenKeys() {
            int broken = 0;
            for (int key = 0; key < keyCount; key++) {
                if (breaks(keyAt(key), keyAt(key).cut)) {
                    broken |= 1 << key;
                }
            }
            return broken;
        }

        /** Makes a cut 1 deeper, unless it is as deep as can be. */
        boolean deepen(Key key, int place) {
            int cut = at(key.cut, place);
            if (cut >= deep) {
                return false;
            }
            put(key.cut, place, cut + 1);
            return true;
        }

        /** The coins for filing a key until it is cut like this row: a cut of c has cost 1, 2 .. c. */
        int cost(Key key, int[] row) {
            int coins = 0;
            for (int place = 0; place < places; place++) {
                for (int cut = at(key.cut, place) + 1; cut <= at(row, place); cut++) {
                    coins += cut;
                }
            }
            return coins;
        }

        /** The next row, place by place, none of it below the least; false: there was no next one. */
        boolean advance(int[] row, int[] least) {
            for (int place = places - 1; place >= 0; place--) {
                if (at(row, place) < deep) {
                    put(row, place, at(row, place) + 1);
                    return true;
                }
                put(row, place, at(least, place));
            }
            return false;
        }

        int draw(int below) {
            seed = seed * 1103515245 + 12345;
            return below > 0 ? (seed >>> 16) % below : 0;
        }

        boolean wear(Key key) {
            return draw(4) == 0 && deepen(key, draw(places));
        }

        /** A key and a lock by draws: whether it opened it and so was used. */
        boolean passDay() {
            int key = draw(keyCount);
            int lock = draw(lockCount);
            if (!hasBit(openedBy(key), lock)) {
                return false;
            }
            wear(keyAt(key));
            return true;
        }
    }

    /** What comes of a house: it is only looked at, but for doMending. */
    private static final class Thought {
        final House house;
        final int[] zeros = new int[MOST_PLACES];
        final int[] row = new int[MOST_PLACES];
        final int[] least = new int[MOST_PLACES];
        final int[] keysWithin = new int[MOST_PLACES * DEPTHS];
        /** For each key the coins to mend it, NONE if it can't be, and the cuts that it has then. */
        final int[] mendCosts = new int[MOST_KEYS];
        final int[][] mendedCuts = new int[MOST_KEYS][MOST_PLACES];
        final int[] openedSets = new int[MOST_KEYS];
        final int[] lengths = new int[MOST_KEYS];
        final int[] ways = new int[MOST_PLACES * MOST_DEEP + 1];

        Thought(House thoughtOf) {
            house = thoughtOf;
        }

        int foundAt(int place) {
            return at(least, place);
        }

        int leastCuts(int locks) {
            return leastRow(house.within, firstBits(house.lockCount), locks);
        }

        int leastAsks(int keys) {
            for (int place = 0; place < house.places; place++) {
                for (int depth = 0; depth < DEPTHS; depth++) {
                    put(keysWithin, place * DEPTHS + depth, keysOfDepth(place, depth));
                }
            }
            return leastRow(keysWithin, firstBits(house.keyCount), keys);
        }

        /** The keys (bits) that are at least this deep at a place. */
        int keysOfDepth(int place, int depth) {
            int keys = 0;
            for (int key = 0; key < house.keyCount; key++) {
                Key tried = house.keyAt(key);
                if (house.depth(tried, tried.cut, place) >= depth) {
                    keys |= 1 << key;
                }
            }
            return keys;
        }

        /** The sum of the least row, of several the first, to which just the wanted ones fit; NONE. */
        int leastRow(int[] table, int all, int wanted) {
            int leastSum = NONE;
            Arrays.fill(row, 0);
            for (int step = 0; step < MOST_ROWS; step++) {
                int sum = house.sum(row);
                if ((leastSum == NONE || sum < leastSum) && fittingRow(table, all) == wanted) {
                    leastSum = sum;
                    System.arraycopy(row, 0, least, 0, MOST_PLACES);
                }
                if (!house.advance(row, zeros)) {
                    break;
                }
            }
            return leastSum;
        }

        int fittingRow(int[] table, int all) {
            int fitting = all;
            for (int place = 0; place < house.places; place++) {
                fitting &= at(table, place * DEPTHS + at(row, place));
            }
            return fitting;
        }

        int rowsFor(int locks) {
            int rows = 0;
            int all = firstBits(house.lockCount);
            Arrays.fill(row, 0);
            for (int step = 0; step < MOST_ROWS; step++) {
                if (fittingRow(house.within, all) == locks) {
                    rows++;
                }
                if (!house.advance(row, zeros)) {
                    break;
                }
            }
            return rows;
        }

        /**
         * No row by which a key fits a lock is anywhere below the one that only makes up what lacks:
         * no other costs less or leaves more of the key.
         */
        int coinsToOpen(int number, int lock) {
            Key key = house.keyAt(number);
            if (hasBit(house.openedBy(number), lock)) {
                return 0;
            }
            if (key.kind == BLANK) {
                return NONE;
            }
            int worn = house.wornPlace(key);
            for (int place = 0; place < house.places; place++) {
                int asks = house.asksAt(lock, place);
                put(row, place, Math.max(at(key.cut, place), place == worn ? asks - 1 : asks));
            }
            return hasBit(house.openedByCuts(key, row), lock) ? house.cost(key, row) : NONE;
        }

        int safeFrom(int lock) {
            int keys = 0;
            for (int key = 0; key < house.keyCount; key++) {
                if (coinsToOpen(key, lock) == NONE) {
                    keys |= 1 << key;
                }
            }
            return keys;
        }

        /** Plans for each key as all others are now, so nothing is filed before all is planned. */
        void planMending() {
            for (int key = 0; key < house.keyCount; key++) {
                put(mendCosts, key, planMendingOf(key));
            }
        }

        int planMendingOf(int number) {
            Key key = house.keyAt(number);
            int besides = house.openedBesides(key);
            int leastCoins = NONE;
            System.arraycopy(key.cut, 0, row, 0, MOST_PLACES);
            for (int step = 0; step < MOST_ROWS; step++) {
                if (house.openedAs(key, row, besides) == key.may) {
                    int coins = house.cost(key, row);
                    if (leastCoins == NONE || coins < leastCoins) {
                        leastCoins = coins;
                        System.arraycopy(row, 0, mendedAt(number), 0, MOST_PLACES);
                    }
                }
                if (key.kind == BLANK || !house.advance(row, key.cut)) {
                    break;
                }
            }
            return leastCoins;
        }

        int[] mendedAt(int key) {
            return key >= 0 && key < mendedCuts.length ? mendedCuts[key] : least;
        }

        int mendingCoins() {
            int coins = 0;
            for (int key = 0; key < house.keyCount; key++) {
                coins += Math.max(0, at(mendCosts, key));
            }
            return coins;
        }

        int pastMending() {
            int keys = 0;
            for (int key = 0; key < house.keyCount; key++) {
                if (at(mendCosts, key) == NONE) {
                    keys |= 1 << key;
                }
            }
            return keys;
        }

        void doMending() {
            for (int key = 0; key < house.keyCount; key++) {
                if (at(mendCosts, key) != NONE) {
                    System.arraycopy(mendedAt(key), 0, house.keyAt(key).cut, 0, MOST_PLACES);
                }
            }
        }

        int openedTogether(int one, int other) {
            for (int place = 0; place < house.places; place++) {
                int cut = at(house.keyAt(one).cut, place);
                put(row, place, Math.max(cut, at(house.keyAt(other).cut, place)));
            }
            return house.openedByCuts(house.noKey, row);
        }

        int bestPair() {
            int best = NONE;
            int most = NONE;
            for (int one = 0; one < house.keyCount; one++) {
                for (int other = one + 1; other < house.keyCount; other++) {
                    int locks = Integer.bitCount(openedTogether(one, other));
                    if (locks > most) {
                        most = locks;
                        best = 10 * one + other;
                    }
                }
            }
            return best;
        }

        /** How many rows have half of the most that they can have together: counted place by place. */
        int rowsOfHalf() {
            int half = house.places * house.deep / 2;
            Arrays.fill(ways, 0);
            put(ways, 0, 1);
            for (int place = 0; place < house.places; place++) {
                for (int sum = half; sum >= 0; sum--) {
                    put(ways, sum, waysWithOneMore(sum));
                }
            }
            return at(ways, half);
        }

        int waysWithOneMore(int sum) {
            int count = 0;
            for (int v = 0; v <= house.deep; v++) {
                count += at(ways, sum - v);
            }
            return count;
        }

        int keysOver(int number) {
            int all = house.openedBy(number);
            int keys = 0;
            for (int key = 0; key < house.keyCount; key++) {
                if (key != number && (all & ~house.openedBy(key)) == 0) {
                    keys |= 1 << key;
                }
            }
            return keys;
        }

        /** How many keys this one is over. */
        int countBelow(int number) {
            int all = house.openedBy(number);
            int count = 0;
            for (int key = 0; key < house.keyCount; key++) {
                if (key != number && (house.openedBy(key) & ~all) == 0) {
                    count++;
                }
            }
            return count;
        }

        /** No chain is longer than there are keys: after as many rounds each key knows its longest one. */
        int longestChain() {
            for (int key = 0; key < house.keyCount; key++) {
                put(openedSets, key, house.openedBy(key));
                put(lengths, key, 1);
            }
            int longest = 0;
            for (int round = 0; round < house.keyCount; round++) {
                for (int key = 0; key < house.keyCount; key++) {
                    put(lengths, key, 1 + longestBelow(key));
                    longest = Math.max(longest, at(lengths, key));
                }
            }
            return longest;
        }

        int longestBelow(int number) {
            int all = at(openedSets, number);
            int longest = 0;
            for (int key = 0; key < house.keyCount; key++) {
                int set = at(openedSets, key);
                if (set != all && (set & ~all) == 0) {
                    longest = Math.max(longest, at(lengths, key));
                }
            }
            return longest;
        }

        /** With a ward no key of kind KEY opens the lock, and no master because of one. */
        int lostByWard(int lock) {
            int lost = 0;
            for (int number = 0; number < house.keyCount; number++) {
                Key key = house.keyAt(number);
                boolean staysOpen = key.isOfKind(WARDED) && hasBit(house.openedByCuts(key, key.cut), lock);
                if (hasBit(house.openedBy(number), lock) && !staysOpen) {
                    lost++;
                }
            }
            return lost;
        }

        void tellCut(int place, int cut) {
            put(row, place, cut);
        }

        /** The keys (bits) that can have become the one that was told, and so open all these locks. */
        int keysOfTold(int locks) {
            int keys = 0;
            for (int number = 0; number < house.keyCount; number++) {
                Key key = house.keyAt(number);
                int openedSo = house.openedAs(key, row, house.openedBesides(key));
                if (canBecomeTold(key) && (locks & ~openedSo) == 0) {
                    keys |= 1 << number;
                }
            }
            return keys;
        }

        boolean canBecomeTold(Key key) {
            for (int place = 0; place < house.places; place++) {
                int cut = at(key.cut, place);
                int told = at(row, place);
                if (cut > told || key.kind == BLANK && cut != told) {
                    return false;
                }
            }
            return true;
        }
    }

    /** The tape, and how a house is read from it. */
    private static final class Tape {
        private static final int BLANK_LETTER = 32;
        private static final int SIGN_LETTER = 59;
        private static final int END = 0;
        private static final int WORD = 1;
        private static final int NUMBER = 2;
        private static final int SIGN = 3;
        private static final int NO_TOKEN = 4;

        final int[] letters = new int[MOST_LETTERS];
        int size = 0;
        /** The token to be read next, from its start to before its end: when reading stops, the fault. */
        int token = END;
        int start = 0;
        int end = 0;

        boolean add(int letter) {
            if (size >= MOST_LETTERS) {
                return false;
            }
            put(letters, size, letter);
            size++;
            return true;
        }

        /** How many statements there are; NONE: a fault, and the house is not to be used. */
        int readInto(House house) {
            end = 0;
            toNextToken();
            for (int statements = 1; statements <= MOST_LETTERS; statements++) {
                if (!readStatement(house)) {
                    return NONE;
                }
                if (token == END) {
                    return statements;
                }
                if (token != SIGN) {
                    return NONE;
                }
                toNextToken();
            }
            return NONE;
        }

        void toNextToken() {
            start = end;
            while (start < size && at(letters, start) == BLANK_LETTER) {
                start++;
            }
            token = start < size ? sortOf(at(letters, start)) : END;
            end = start < size ? start + 1 : start;
            while ((token == WORD || token == NUMBER) && end < size && sortOf(at(letters, end)) == token) {
                end++;
            }
        }

        int sortOf(int letter) {
            if (letter >= 'a' && letter <= 'z') {
                return WORD;
            }
            if (letter >= '0' && letter <= '9') {
                return NUMBER;
            }
            return letter == SIGN_LETTER ? SIGN : NO_TOKEN;
        }

        boolean isWord(String word) {
            if (token != WORD || end - start != word.length()) {
                return false;
            }
            for (int i = 0; i < word.length(); i++) {
                if (at(letters, start + i) != word.charAt(i)) {
                    return false;
                }
            }
            return true;
        }

        /** Goes on behind a word, if it stands here. */
        boolean readWord(String word) {
            if (!isWord(word)) {
                return false;
            }
            toNextToken();
            return true;
        }

        /** Goes on behind a number that may be; NONE: no such number stands here. */
        int readNumber(int least, int most) {
            if (token != NUMBER || end - start > 2) {
                return NONE;
            }
            int v = 0;
            for (int i = start; i < end; i++) {
                v = 10 * v + at(letters, i) - '0';
            }
            if (!isWithin(v, least, most)) {
                return NONE;
            }
            toNextToken();
            return v;
        }

        boolean readStatement(House house) {
            if (isWord("places")) {
                return readPlaces(house);
            }
            if (isWord("deep")) {
                return readDeep(house);
            }
            if (readWord("strength")) {
                return readStrength(house);
            }
            if (isWord("key")) {
                return readKey(house);
            }
            if (isWord("lock")) {
                return readLock(house);
            }
            return readWord("may") && readMay(house);
        }

        boolean readPlaces(House house) {
            if (!house.isEmpty()) {
                return false;
            }
            toNextToken();
            int v = readNumber(1, MOST_PLACES);
            house.places = v == NONE ? house.places : v;
            return v != NONE;
        }

        boolean readDeep(House house) {
            if (!house.isEmpty()) {
                return false;
            }
            toNextToken();
            int v = readNumber(1, MOST_DEEP);
            house.deep = v == NONE ? house.deep : v;
            return v != NONE;
        }

        boolean readStrength(House house) {
            int v = readNumber(1, MOST_STRENGTH);
            house.strength = v == NONE ? house.strength : v;
            return v != NONE;
        }

        boolean readKey(House house) {
            if (house.keyCount >= MOST_KEYS) {
                return false;
            }
            toNextToken();
            int kind = readNumber(KEY, MASTER);
            if (kind == NONE) {
                return false;
            }
            int a = readNumber(0, MOST_A);
            if (a == NONE) {
                return false;
            }
            int key = house.addKey(kind, a);
            return !readWord("cut") || readCuts(house, key);
        }

        boolean readCuts(House house, int key) {
            for (int place = 0; place < house.places; place++) {
                int cut = readNumber(0, house.deep);
                if (cut == NONE) {
                    return false;
                }
                put(house.keyAt(key).cut, place, cut);
            }
            return true;
        }

        boolean readLock(House house) {
            if (house.lockCount >= MOST_LOCKS) {
                return false;
            }
            toNextToken();
            int lock = house.addLock(false);
            if (readWord("asks") && !readAsks(house, lock)) {
                return false;
            }
            if (readWord("ward")) {
                house.wards |= 1 << lock;
            }
            return true;
        }

        boolean readAsks(House house, int lock) {
            for (int place = 0; place < house.places; place++) {
                int v = readNumber(0, house.deep);
                if (v == NONE) {
                    return false;
                }
                house.putAsks(lock, place, v);
            }
            return true;
        }

        boolean readMay(House house) {
            int key = readNumber(0, house.keyCount - 1);
            if (key == NONE) {
                return false;
            }
            int lock = readNumber(0, house.lockCount - 1);
            if (lock == NONE) {
                return false;
            }
            house.keyAt(key).allow(lock, true);
            return true;
        }
    }
}
