import java.util.ArrayList;
import java.util.List;

/** REFUSALS and section 3 "in thought": what a call that is refused, or that only looks, leaves as it was. */
public final class RefusalsTest {
    private static final Due d = new Due();
    private static final int BAD = -2, OTHER = -3, NOTHING = -4, STUCK = -5, FULL = -6;
    private static final int MIN = Integer.MIN_VALUE, MAX = Integer.MAX_VALUE;
    /** Where the count of a refusal stands in what is looked at. */
    private static final int FIRST_COUNT = 12;

    private interface Call {
        long of(CutDeeper x);
    }

    private interface CallOf {
        long of(CutDeeper x, int v);
    }

    private static final Call[] THOUGHTS = {
        x -> x.says(3, 5),
        x -> x.opened(4),
        x -> x.who(1),
        CutDeeper::wrong,
        CutDeeper::wrongs,
        x -> x.judge(0),
        x -> x.cuts(5, 2),
        x -> x.asked(3, 1),
        x -> x.toOpen(2, 1),
        x -> x.safe(2),
        CutDeeper::safest,
        x -> x.mended(0),
        x -> x.mended(1),
        x -> x.left(2),
        x -> x.idle(1),
        x -> x.together(0, 1),
        CutDeeper::pair,
        CutDeeper::unlike,
        CutDeeper::alike,
        x -> x.over(3),
        CutDeeper::chain,
        x -> x.ward(0),
        x -> x.found(0, 1),
        x -> x.many(1),
        x -> x.cuts(0, -1),
        x -> x.asked(31, -1),
        x -> x.asked(2, 1),
        x -> x.many(0)
    };

    public static void main(String[] args) {
        rows();
        shelvesOfOtherThings();
        keysOnShelves();
        house();
        keysThereAreNot();
        locksThereAreNot();
        placesThereAreNot();
        sets();
        whats();
        lists();
        stuck();
        full();
        badGoesFirst();
        tapes();
        nothingKept();
        noneIsNotRefused();
        thoughtChangesNothing();
        thoughtIsForgotten();
        d.end();
    }

    /**
     * Five keys (KEY, WORN, THIN, BLANK, MASTER) and three locks, the last with a ward. Shelf 0 has six longs, 1 two
     * ints, 2 key 0, 3 key 4, 4 two bytes; 5 to 7 nothing. All of it is kept, then some of it changed.
     */
    private static CutDeeper room() {
        CutDeeper x = new CutDeeper();
        int[][] keys = {{0, 1}, {1, 4}, {2, 3}, {4, 9}, {5, 0}};
        for (int[] key : keys) {
            x.key(key[0], key[1]);
        }
        x.lock(false);
        x.lock(false);
        x.lock(true);
        x.asks(0, 0, 1);
        x.asks(1, 1, 2);
        x.asks(2, 2, 3);
        x.file(0, 0);
        x.may(0, 0, true);
        Due.tell(x, 0, 1, 2, 3, 0, 1, 2);
        x.row(1, 2, 2);
        x.set(1, 1, -7);
        x.row(4, 0, 2);
        x.show(2, 0);
        x.show(3, 4);
        x.feed('k');
        x.feed(255);
        x.seed(99);
        x.image();
        x.file(1, 2);
        x.may(1, 1, true);
        x.asks(1, 0, 1);
        x.seed(-5);
        return x;
    }

    /** The same with all keys and locks there can be. */
    private static CutDeeper fullHouse() {
        CutDeeper x = room();
        x.key(3, 2);
        for (int lock = 3; lock < 8; lock++) {
            x.lock(true);
        }
        return x;
    }

    private static CutDeeper fullTape() {
        CutDeeper x = room();
        for (int size = 2; size < 250; size++) {
            x.feed(32);
        }
        return x;
    }

    /** All that can be seen, without a refusal; the counts of refusals stand at 12 to 16. */
    private static List<Long> sight(CutDeeper x) {
        List<Long> seen = new ArrayList<>();
        int keys = x.status(0);
        int locks = x.status(1);
        int places = x.status(2);
        for (int what = 0; what <= 16; what++) {
            seen.add((long) x.status(what));
        }
        for (int s = 0; s < 8; s++) {
            seen.add((long) x.holds(s));
        }
        for (int i = 0; i < 6; i++) {
            seen.add(x.element(0, i));
        }
        for (int s : new int[] {1, 4}) {
            seen.add(x.element(s, 0));
            seen.add(x.element(s, 1));
        }
        for (int key = 0; key < keys; key++) {
            for (int what : new int[] {0, 1, 4, 10, 11, 12, 13, 14}) {
                seen.add(what < 10 + places ? (long) x.keyOf(key, what) : 0L);
            }
        }
        for (int lock = 0; lock < locks; lock++) {
            for (int what : new int[] {0, 10, 11, 12, 13, 14}) {
                seen.add(what < 10 + places ? (long) x.lockOf(lock, what) : 0L);
            }
        }
        return seen;
    }

    private static void leaves(CutDeeper x, String call, long answer, int refusals, Call c) {
        List<Long> due = sight(x);
        d.due(call, c.of(x), answer);
        if (refusals > 0) {
            int count = FIRST_COUNT + BAD - (int) answer;
            due.set(count, due.get(count) + refusals);
        }
        d.due(call + ": nothing else changes", sight(x).equals(due) ? 1 : 0, 1);
    }

    private static void refused(String call, int number, Call c) {
        leaves(room(), call, number, 1, c);
        CutDeeper x = room();
        c.of(x);
        CutDeeper y = room();
        x.back();
        y.back();
        List<Long> due = sight(y);
        int count = FIRST_COUNT + BAD - number;
        due.set(count, due.get(count) + 1);
        d.due(call + ": nor what is kept", sight(x).equals(due) ? 1 : 0, 1);
    }

    /** Refused for each of these numbers. */
    private static void refused(String call, int number, CallOf c, int... numbers) {
        for (int v : numbers) {
            refused(call + " " + v, number, x -> c.of(x, v));
        }
    }

    private static void looksOnly(String call, Call c) {
        CutDeeper x = room();
        long answer = c.of(x);
        leaves(x, call, answer, 0, c);
        d.due(call + ": not refused", answer >= -1 ? 1 : 0, 1);
    }

    private static void rows() {
        d.promise("2 to 4 BAD numbers of shelves and rows");
        int[] shelves = {-1, 8, MIN, MAX};
        refused("row, shelf", BAD, (x, v) -> x.row(v, 0, 1), shelves);
        refused("row, sort", BAD, (x, v) -> x.row(0, v, 1), -1, 5, MIN, MAX);
        refused("row, n", BAD, (x, v) -> x.row(0, 0, v), -1, 41, MIN, MAX);
        refused("set, shelf", BAD, (x, v) -> x.set(v, 0, 1), shelves);
        refused("set, i", BAD, (x, v) -> x.set(1, v, 1), -1, 2, MIN, MAX);
        refused("copy, from", BAD, (x, v) -> x.copy(v, 0, 0, 0, 1), shelves);
        refused("copy, to", BAD, (x, v) -> x.copy(0, v, 0, 0, 1), shelves);
        refused("copy, i", BAD, (x, v) -> x.copy(0, 0, v, 0, 1), -1, 6, MIN, MAX);
        refused("copy, j", BAD, (x, v) -> x.copy(0, 0, 0, v, 1), -1, 6, MIN, MAX);
        refused("copy, n", BAD, (x, v) -> x.copy(0, 0, 0, 0, v), -1, 7, MIN, MAX);
        refused("copy, n behind i", BAD, (x, v) -> x.copy(0, 0, 4, 0, v), 3, MAX - 3, MAX);
        refused("copy, n behind j", BAD, (x, v) -> x.copy(0, 0, 0, 4, v), 3, MAX - 3, MAX);
        refused("show, shelf", BAD, (x, v) -> x.show(v, 0), shelves);
        refused("show NONE, shelf", BAD, (x, v) -> x.show(v, -1), shelves);
        refused("says, shelf", BAD, (x, v) -> x.says(v, 0), shelves);
        refused("says, kind", BAD, (x, v) -> x.says(2, v), -1, 6, MIN, MAX);
        refused("judge, shelf", BAD, (x, v) -> x.judge(v), shelves);
        refused("list, shelf", BAD, (x, v) -> x.list(v), shelves);
        refused("found, shelf", BAD, (x, v) -> x.found(v, 0), shelves);
    }

    private static void shelvesOfOtherThings() {
        d.promise("3, 4, 8, 25, 26, 42 OTHER, NOTHING");
        refused("set, a key", OTHER, (x, v) -> x.set(v, 0, 1), 2, 3);
        refused("set, nothing", NOTHING, (x, v) -> x.set(v, 0, 1), 5, 7);
        refused("copy, from a key", OTHER, (x, v) -> x.copy(v, 0, 0, 0, 1), 2, 3);
        refused("copy, to a key", OTHER, (x, v) -> x.copy(0, v, 0, 0, 1), 2, 3);
        refused("copy, both keys", OTHER, x -> x.copy(2, 3, 0, 0, 1));
        refused("copy, two sorts", OTHER, (x, v) -> x.copy(0, v, 0, 0, 1), 1, 4);
        refused("copy, two sorts back", OTHER, (x, v) -> x.copy(v, 0, 0, 0, 1), 1, 4);
        refused("copy, a key and nothing", OTHER, x -> x.copy(2, 7, 0, 0, 1));
        refused("copy, nothing and a key", OTHER, x -> x.copy(7, 2, 0, 0, 1));
        refused("copy, nothing and a row", NOTHING, (x, v) -> x.copy(7, v, 0, 0, 1), 0, 1, 4);
        refused("copy, a row and nothing", NOTHING, (x, v) -> x.copy(v, 7, 0, 0, 1), 0, 1, 4);
        refused("copy, nothing twice", NOTHING, x -> x.copy(7, 7, 0, 0, 0));
        refused("copy, nothing and nothing", NOTHING, x -> x.copy(5, 6, 0, 0, 1));
        refused("says, a row", OTHER, (x, v) -> x.says(v, 0), 0, 1, 4);
        refused("says, nothing", NOTHING, (x, v) -> x.says(7, v), 0, 1, 2, 3, 4, 5);
        refused("says, a KEY is of no such kind", OTHER, (x, v) -> x.says(2, v), 1, 2, 3, 4, 5);
        refused("says, a MASTER is of no such kind", OTHER, (x, v) -> x.says(3, v), 1, 2, 4);
        refused("judge, a key", OTHER, (x, v) -> x.judge(v), 2, 3);
        refused("judge, nothing", NOTHING, (x, v) -> x.judge(v), 5, 7);
        refused("list, a key", OTHER, (x, v) -> x.list(v), 2, 3);
        refused("list, nothing", NOTHING, (x, v) -> x.list(v), 5, 7);
        refused("found, a key", OTHER, (x, v) -> x.found(v, 0), 2, 3);
        refused("found, nothing", NOTHING, (x, v) -> x.found(v, 0), 5, 7);
    }

    private static void keysOnShelves() {
        d.promise("7 show BAD");
        refused("show, a key there is not", BAD, (x, v) -> x.show(0, v), -2, 5, MIN, MAX);
    }

    private static void house() {
        d.promise("9 to 11, 15, 45 BAD numbers of the house");
        refused("ask, what", BAD, (x, v) -> x.ask(v, 1), -1, 3, MIN, MAX);
        refused("ask PLACES", BAD, (x, v) -> x.ask(0, v), -1, 0, 6, MIN, MAX);
        refused("ask DEEP", BAD, (x, v) -> x.ask(1, v), -1, 0, 5, MIN, MAX);
        refused("ask STRENGTH", BAD, (x, v) -> x.ask(2, v), -1, 0, 21, MIN, MAX);
        refused("key, kind", BAD, (x, v) -> x.key(v, 0), -1, 6, MIN, MAX);
        refused("key, a", BAD, (x, v) -> x.key(0, v), -1, 10, MIN, MAX);
        refused("asks, v", BAD, (x, v) -> x.asks(0, 0, v), -1, 4, MIN, MAX);
        refused("feed", BAD, (x, v) -> x.feed(v), -1, 256, MIN, MAX);
        refused("days", BAD, (x, v) -> x.days(v), -1, 0, 41, MIN, MAX);
    }

    private static void keysThereAreNot() {
        d.promise("13 to 46 BAD keys");
        int[] keys = {-1, 5, 6, MIN, MAX};
        refused("may", BAD, (x, v) -> x.may(v, 0, true), keys);
        refused("file", BAD, (x, v) -> x.file(v, 0), keys);
        refused("keyOf", BAD, (x, v) -> x.keyOf(v, 0), keys);
        refused("opens", BAD, (x, v) -> x.opens(v, 0, 0), keys);
        refused("opened", BAD, (x, v) -> x.opened(v), keys);
        refused("toOpen", BAD, (x, v) -> x.toOpen(v, 0), keys);
        refused("left", BAD, (x, v) -> x.left(v), keys);
        refused("together, the one", BAD, (x, v) -> x.together(v, 0), keys);
        refused("together, the other", BAD, (x, v) -> x.together(0, v), keys);
        refused("together, one key twice", BAD, (x, v) -> x.together(v, v), -1, 0, 1, 2, 3, 4, 5);
        refused("over", BAD, (x, v) -> x.over(v), keys);
        refused("use", BAD, (x, v) -> x.use(v, 0), keys);
        refused("renew", BAD, (x, v) -> x.renew(v), keys);
    }

    private static void locksThereAreNot() {
        d.promise("12 to 44 BAD locks");
        int[] locks = {-1, 3, 8, MIN, MAX};
        refused("asks", BAD, (x, v) -> x.asks(v, 0, 0), locks);
        refused("may", BAD, (x, v) -> x.may(0, v, true), locks);
        refused("may not", BAD, (x, v) -> x.may(0, v, false), locks);
        refused("lockOf", BAD, (x, v) -> x.lockOf(v, 0), locks);
        refused("opens", BAD, (x, v) -> x.opens(0, v, 0), locks);
        refused("who", BAD, (x, v) -> x.who(v), locks);
        refused("toOpen", BAD, (x, v) -> x.toOpen(0, v), locks);
        refused("safe", BAD, (x, v) -> x.safe(v), locks);
        refused("ward", BAD, (x, v) -> x.ward(v), locks);
        refused("use", BAD, (x, v) -> x.use(0, v), locks);
    }

    private static void placesThereAreNot() {
        d.promise("12 to 34 BAD places");
        int[] places = {-1, 3, 4, MIN, MAX};
        refused("asks", BAD, (x, v) -> x.asks(0, v, 0), places);
        refused("file", BAD, (x, v) -> x.file(0, v), places);
        refused("idle", BAD, (x, v) -> x.idle(v), places);
        refused("cuts", BAD, (x, v) -> x.cuts(0, v), -2, 3, MIN, MAX);
        refused("asked", BAD, (x, v) -> x.asked(0, v), -2, 3, MIN, MAX);
    }

    private static void sets() {
        d.promise("27, 28, 42, 43 BAD sets");
        refused("cuts", BAD, (x, v) -> x.cuts(v, -1), -1, 8, 9, 256, MIN, MAX);
        refused("asked", BAD, (x, v) -> x.asked(v, -1), -1, 32, 33, 64, MIN, MAX);
        refused("found", BAD, (x, v) -> x.found(0, v), -1, 8, 9, 256, MIN, MAX);
        refused("many", BAD, (x, v) -> x.many(v), -1, 8, 9, 256, MIN, MAX);
    }

    private static void whats() {
        d.promise("18 to 20, 32 BAD whats");
        refused("keyOf", BAD, (x, v) -> x.keyOf(0, v), -1, 5, 9, 13, 19, 23, 30, MIN, MAX, MIN + 9, MIN + 19);
        refused("lockOf", BAD, (x, v) -> x.lockOf(0, v), -1, 2, 9, 13, 20, MIN, MAX, MIN + 9);
        refused("opens", BAD, (x, v) -> x.opens(0, 0, v), -1, 2, MIN, MAX);
        refused("mended", BAD, (x, v) -> x.mended(v), -1, 2, MIN, MAX);
    }

    private static void lists() {
        d.promise("25, 26, 42 BAD rows");
        refused("judge, fewer elements", BAD, (x, v) -> x.judge(v), 1, 4);
        refused("list, fewer elements", BAD, (x, v) -> x.list(v), 1, 4);
        refused("found, fewer elements", BAD, (x, v) -> x.found(v, 0), 1, 4);
        for (int place = 0; place < 3; place++) {
            for (long told : new long[] {-1, 4, 1L << 32, Long.MIN_VALUE, Long.MAX_VALUE}) {
                CutDeeper x = room();
                x.set(0, place, told);
                leaves(x, "found, none of 0 to DEEP", BAD, 1, y -> y.found(0, 0));
            }
        }
    }

    private static void stuck() {
        d.promise("9, 14, 41, 44, 46 STUCK");
        refused("ask PLACES, keys and locks", STUCK, (x, v) -> x.ask(0, v), 1, 3, 5);
        refused("ask DEEP, keys and locks", STUCK, (x, v) -> x.ask(1, v), 1, 3, 4);
        refused("file, a BLANK", STUCK, (x, v) -> x.file(3, v), 0, 1, 2);
        refused("ward, it has one", STUCK, x -> x.ward(2));
        refused("use, it doesn't open it", STUCK, x -> x.use(0, 2));
        refused("renew, it isn't broken", STUCK, (x, v) -> x.renew(v), 0, 1, 2, 3, 4);
        CutDeeper deep = room();
        while (deep.keyOf(0, 11) < 3) {
            deep.file(0, 1);
        }
        leaves(deep, "file, DEEP already", STUCK, 1, x -> x.file(0, 1));
        leaves(new CutDeeper(), "days, neither", STUCK, 1, x -> x.days(1));
        leaves(Due.of("key 0 0"), "days, no locks", STUCK, 1, x -> x.days(40));
        leaves(Due.of("lock"), "days, no keys", STUCK, 1, x -> x.days(1));
        leaves(new CutDeeper(), "pair, no key", STUCK, 1, CutDeeper::pair);
        leaves(Due.of("key 0 0;lock"), "pair, one key", STUCK, 1, CutDeeper::pair);
        leaves(Due.of("key 0 0"), "ask PLACES, a key", STUCK, 1, x -> x.ask(0, 3));
        leaves(Due.of("lock"), "ask PLACES, a lock", STUCK, 1, x -> x.ask(0, 3));
        leaves(Due.of("key 0 0"), "ask DEEP, a key", STUCK, 1, x -> x.ask(1, 3));
        leaves(Due.of("lock"), "ask DEEP, a lock", STUCK, 1, x -> x.ask(1, 3));
    }

    private static void full() {
        d.promise("10, 11, 15 FULL");
        leaves(fullHouse(), "key", FULL, 1, x -> x.key(0, 0));
        leaves(fullHouse(), "lock", FULL, 1, x -> x.lock(false));
        leaves(fullHouse(), "lock with a ward", FULL, 1, x -> x.lock(true));
        leaves(fullTape(), "feed", FULL, 1, x -> x.feed(32));
    }

    private static void badGoesFirst() {
        d.promise("REFUSALS: the first that fits as each line has them");
        refused("set, no shelf, no i", BAD, x -> x.set(8, -1, 0));
        refused("set, a key, no i", OTHER, x -> x.set(2, -1, 0));
        refused("set, nothing, no i", NOTHING, x -> x.set(7, -1, 0));
        refused("copy, no shelf and a key", BAD, x -> x.copy(-1, 2, 0, 0, 1));
        refused("copy, a key and no shelf", BAD, x -> x.copy(2, 8, 0, 0, 1));
        refused("copy, nothing and no shelf", BAD, x -> x.copy(7, 8, 0, 0, 1));
        refused("copy, two sorts, no n", OTHER, x -> x.copy(0, 1, 0, 0, -1));
        refused("copy, nothing, no n", NOTHING, x -> x.copy(0, 7, 0, 0, -1));
        refused("says, a row, no kind", BAD, x -> x.says(0, 6));
        refused("says, nothing, no kind", BAD, x -> x.says(7, -1));
        refused("ask, keys, no v", BAD, (x, v) -> x.ask(v, 0), 0, 1);
        refused("file, a BLANK, no place", BAD, x -> x.file(3, 3));
        refused("use, doesn't open, no lock", BAD, x -> x.use(3, 3));
        refused("found, a key, no set", BAD, x -> x.found(2, 8));
        refused("found, nothing, no set", BAD, x -> x.found(7, -1));
        refused("cuts, no set, no place", BAD, x -> x.cuts(8, 3));
        refused("asked, no set, no place", BAD, x -> x.asked(32, 3));
        leaves(fullHouse(), "key, full, no kind", BAD, 1, x -> x.key(6, 0));
        leaves(fullHouse(), "key, full, no a", BAD, 1, x -> x.key(0, 10));
        leaves(fullTape(), "feed, full, no byte", BAD, 1, x -> x.feed(256));
        leaves(new CutDeeper(), "days, none, no n", BAD, 1, x -> x.days(41));
        // Locks fit no row here, so that NONE is due of any place there is.
        CutDeeper x = Due.of("places 1;lock;lock;key 0 0;key 0 0");
        leaves(x, "cuts, NONE, no place", BAD, 1, y -> y.cuts(1, 1));
        leaves(x, "asked, NONE, no place", BAD, 1, y -> y.asked(1, 1));
    }

    /** The tape alone is empty then, either way. */
    private static void tapes() {
        d.promise("17 house, refused");
        String[] texts = {"", " ", "lock;", "key 0 0 cut 1 1 1;lock ward;may 0 0;strength 1;?", "lock;lock;may 0 1;may 0 9"};
        for (String text : texts) {
            CutDeeper x = room();
            x.wipe();
            List<Long> due = sight(x);
            due.set(FIRST_COUNT, due.get(FIRST_COUNT) + 1);
            d.due("a fault", Due.read(x, text) <= -20 ? 1 : 0, 1);
            d.due("nothing else changes", sight(x).equals(due) ? 1 : 0, 1);
        }
    }

    private static void nothingKept() {
        d.promise("50 back STUCK");
        CutDeeper x = Due.of("key 0 0;lock;may 0 0");
        x.show(0, 0);
        leaves(x, "back", STUCK, 1, CutDeeper::back);
        leaves(x, "back again", STUCK, 1, CutDeeper::back);
    }

    private static void noneIsNotRefused() {
        d.promise("5, 6, 23, 25, 27 to 29, 31, 38, 51 nothing is refused");
        CutDeeper none = new CutDeeper();
        leaves(none, "wrong", -1, 0, CutDeeper::wrong);
        leaves(none, "safest", -1, 0, CutDeeper::safest);
        leaves(none, "alike", -1, 0, CutDeeper::alike);
        CutDeeper x = Due.of("places 1;deep 1;lock;lock;key 0 0;key 0 0 cut 1;key 4 9;may 0 0;may 0 1;may 1 0;may 1 1");
        leaves(x, "cuts", -1, 0, y -> y.cuts(1, -1));
        leaves(x, "cuts at a place", -1, 0, y -> y.cuts(1, 0));
        leaves(x, "asked", -1, 0, y -> y.asked(1, -1));
        leaves(x, "asked at a place", -1, 0, y -> y.asked(1, 0));
        x.asks(0, 0, 1);
        leaves(x, "toOpen", -1, 0, y -> y.toOpen(2, 0));
        for (int v : new int[] {-1, 8, MIN, MAX}) {
            leaves(room(), "element, no shelf", 0, 0, y -> y.element(v, 0));
            leaves(room(), "holds, no shelf", -1, 0, y -> y.holds(v));
        }
        for (int v : new int[] {-1, 6, 40, MIN, MAX}) {
            leaves(room(), "element, none", 0, 0, y -> y.element(0, v));
        }
        for (int s : new int[] {2, 3, 5, 7}) {
            leaves(room(), "element, no row", 0, 0, y -> y.element(s, 0));
        }
        for (int v : new int[] {-1, 11, 17, MIN, MAX}) {
            leaves(room(), "status", -1, 0, y -> y.status(v));
        }
    }

    private static void thoughtChangesNothing() {
        d.promise("WHAT COMES OF IT: in thought, nothing is changed");
        for (int i = 0; i < THOUGHTS.length; i++) {
            looksOnly("thought " + i, THOUGHTS[i]);
        }
        looksOnly("image", CutDeeper::image);
    }

    private static void thoughtIsForgotten() {
        d.promise("WHAT COMES OF IT: whatever was thought ahead");
        for (int i = 0; i < THOUGHTS.length; i++) {
            long due = THOUGHTS[i].of(room());
            for (int ahead = 0; ahead < THOUGHTS.length; ahead++) {
                CutDeeper x = room();
                THOUGHTS[ahead].of(x);
                d.due("thought " + i + " behind " + ahead, THOUGHTS[i].of(x), due);
            }
        }
    }
}
