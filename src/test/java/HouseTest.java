/** Promises 9 to 26: keys, locks, the tape, what opens and who may. */
public final class HouseTest {
    private static final Due d = new Due();
    private static final int BAD = -2, OTHER = -3, NOTHING = -4, STUCK = -5, FULL = -6;

    public static void main(String[] args) {
        ask();
        key();
        lock();
        asks();
        may();
        file();
        feed();
        wipe();
        house();
        faults();
        keyOf();
        lockOf();
        opens();
        opened();
        who();
        wrong();
        wrongs();
        judge();
        list();
        d.end();
    }

    private static void ask() {
        d.promise("9 ask");
        CutDeeper x = new CutDeeper();
        d.due("ask(0, 1)", x.ask(0, 1), 3);
        d.due("ask(0, 5)", x.ask(0, 5), 1);
        d.due("status(2)", x.status(2), 5);
        d.due("ask(1, 1)", x.ask(1, 1), 3);
        d.due("ask(1, 4)", x.ask(1, 4), 1);
        d.due("status(3)", x.status(3), 4);
        d.due("ask(2, 1)", x.ask(2, 1), 12);
        d.due("ask(2, 20)", x.ask(2, 20), 1);
        d.due("status(4)", x.status(4), 20);
        int[][] bad = {{0, 0}, {0, 6}, {1, 0}, {1, 5}, {2, 0}, {2, 21}, {3, 1}, {-1, 1}, {0, -1}};
        for (int[] pair : bad) {
            d.due("ask(" + pair[0] + ", " + pair[1] + ")", x.ask(pair[0], pair[1]), BAD);
        }
        x.lock(false);
        d.due("a lock is there", x.ask(0, 5), STUCK);
        d.due("a lock is there", x.ask(1, 4), STUCK);
        d.due("BAD goes first", x.ask(0, 6), BAD);
        d.due("strength all the same", x.ask(2, 9), 20);
        CutDeeper y = new CutDeeper();
        y.key(0, 0);
        d.due("a key is there", y.ask(0, 3), STUCK);
        d.due("a key is there", y.ask(1, 3), STUCK);
        d.due("strength all the same", y.ask(2, 9), 12);
    }

    private static void key() {
        d.promise("10 key");
        CutDeeper x = new CutDeeper();
        d.due("key(-1, 0)", x.key(-1, 0), BAD);
        d.due("key(6, 0)", x.key(6, 0), BAD);
        d.due("key(0, -1)", x.key(0, -1), BAD);
        d.due("key(0, 10)", x.key(0, 10), BAD);
        for (int i = 0; i < 6; i++) {
            d.due("key", x.key(i, 9 - i), i);
        }
        d.due("full", x.key(0, 0), FULL);
        d.due("BAD goes first", x.key(6, 0), BAD);
        d.due("status(0)", x.status(0), 6);
        for (int i = 0; i < 6; i++) {
            d.due("kind", x.keyOf(i, 0), i);
            d.due("a", x.keyOf(i, 1), 9 - i);
            d.due("gone", x.keyOf(i, 2), 0);
            d.due("may", x.keyOf(i, 4), 0);
        }
    }

    private static void lock() {
        d.promise("11 lock");
        CutDeeper x = new CutDeeper();
        for (int i = 0; i < 8; i++) {
            d.due("lock", x.lock(i % 3 == 1), i);
        }
        d.due("full", x.lock(true), FULL);
        d.due("status(1)", x.status(1), 8);
        d.due("wards", x.status(7), 2 + 16 + 128);
        d.due("asks", x.lockOf(7, 1), 0);
    }

    private static void asks() {
        d.promise("12 asks");
        CutDeeper x = Due.of("key 0 0 cut 1 1 1;lock;lock asks 1 1 1");
        d.due("asks(0, 2, 3)", x.asks(0, 2, 3), 0);
        d.due("asks(0, 2, 1)", x.asks(0, 2, 1), 3);
        d.due("lockOf(0, 12)", x.lockOf(0, 12), 1);
        d.due("the other as it was", x.lockOf(1, 1), 3);
        d.due("opened", x.opened(0), 3);
        x.asks(1, 0, 2);
        d.due("opened", x.opened(0), 1);
        x.asks(1, 0, 0);
        d.due("opened", x.opened(0), 3);
        int[][] bad = {{-1, 0, 0}, {2, 0, 0}, {0, -1, 0}, {0, 3, 0}, {0, 0, -1}, {0, 0, 4}};
        for (int[] row : bad) {
            d.due("asks " + row[0] + " " + row[1] + " " + row[2], x.asks(row[0], row[1], row[2]), BAD);
        }
    }

    private static void may() {
        d.promise("13 may");
        CutDeeper x = Due.of("key 0 0;key 0 0;lock;lock");
        d.due("may(1, 1, true)", x.may(1, 1, true), 1);
        d.due("again", x.may(1, 1, true), 0);
        d.due("may(1, 0, true)", x.may(1, 0, true), 1);
        d.due("keyOf(1, 4)", x.keyOf(1, 4), 3);
        d.due("keyOf(0, 4)", x.keyOf(0, 4), 0);
        d.due("may(1, 1, false)", x.may(1, 1, false), 1);
        d.due("again", x.may(1, 1, false), 0);
        d.due("keyOf(1, 4)", x.keyOf(1, 4), 1);
        d.due("may(2, 0, true)", x.may(2, 0, true), BAD);
        d.due("may(-1, 0, true)", x.may(-1, 0, true), BAD);
        d.due("may(0, 2, true)", x.may(0, 2, true), BAD);
        d.due("may(0, -1, true)", x.may(0, -1, true), BAD);
    }

    private static void file() {
        d.promise("14 file");
        CutDeeper x = Due.of("deep 2;key 1 0;key 4 0;key 2 9");
        d.due("file(0, 0)", x.file(0, 0), 1);
        d.due("file(0, 0)", x.file(0, 0), 2);
        d.due("deep already", x.file(0, 0), STUCK);
        d.due("file(0, 1)", x.file(0, 1), 1);
        d.due("coins", x.status(5), 4);
        d.due("cut", x.keyOf(0, 10), 2);
        d.due("cut", x.keyOf(0, 11), 1);
        d.due("cut", x.keyOf(0, 12), 0);
        d.due("a blank", x.file(1, 0), STUCK);
        d.due("no such key", x.file(3, 0), BAD);
        d.due("no such key", x.file(-1, 0), BAD);
        d.due("no such place", x.file(0, 3), BAD);
        d.due("no such place", x.file(0, -1), BAD);
        d.due("BAD goes first", x.file(1, 3), BAD);
        x.ask(2, 1);
        d.due("a broken one", x.file(2, 0), 1);
        d.due("a broken one", x.file(2, 0), 2);
        d.due("broken", x.keyOf(2, 3), 1);
    }

    private static void feed() {
        d.promise("15 feed");
        CutDeeper x = new CutDeeper();
        d.due("feed(0)", x.feed(0), 1);
        d.due("feed(255)", x.feed(255), 2);
        d.due("feed(256)", x.feed(256), BAD);
        d.due("feed(-1)", x.feed(-1), BAD);
        for (int i = 3; i <= 250; i++) {
            d.due("feed", x.feed(32), i);
        }
        d.due("full", x.feed(32), FULL);
        d.due("BAD goes first", x.feed(256), BAD);
        d.due("status(8)", x.status(8), 250);
    }

    private static void wipe() {
        d.promise("16 wipe");
        CutDeeper x = new CutDeeper();
        d.due("empty", x.wipe(), 0);
        x.feed('?');
        x.feed('?');
        d.due("wipe", x.wipe(), 2);
        d.due("status(8)", x.status(8), 0);
        d.due("what was there is gone", Due.read(x, "lock"), 1);
    }

    private static void house() {
        d.promise("17 house");
        CutDeeper x = new CutDeeper();
        d.due("all statements", Due.read(x, " places 2 ; deep4;strength 09;key0 5cut 1 04;lock asks 2 1 ward ;"
            + "lock ward;lock asks 0 3;lock;may 0 1;may 00 3 "), 10);
        int[] want = {1, 4, 2, 4, 9, 0, 0, 3, 0};
        for (int what = 0; what < want.length; what++) {
            d.due("status(" + what + ")", x.status(what), want[what]);
        }
        d.due("kind", x.keyOf(0, 0), 0);
        d.due("a", x.keyOf(0, 1), 5);
        d.due("cut", x.keyOf(0, 10), 1);
        d.due("cut", x.keyOf(0, 11), 4);
        d.due("may", x.keyOf(0, 4), 2 + 8);
        d.due("asks", x.lockOf(0, 10), 2);
        d.due("asks", x.lockOf(0, 11), 1);
        d.due("asks nothing", x.lockOf(1, 1), 0);
        d.due("asks", x.lockOf(2, 11), 3);
        d.due("status(12)", x.status(12), 0);
        d.due("a number is as long as can be", Due.read(x, "key05cut"), -25);
        d.due("a word is as long as can be", Due.read(x, "lockward"), -20);
    }

    private static void faults() {
        d.promise("17 house, faults");
        String[] texts = {"", "   ", ";", "lock;", "lock; ", "lock;;lock", "lock lock", "Lock", "lock\u00e4", "locks",
            "places 6", "places 0", "places", "places 003", "deep 5", "deep 0", "deep 1 1", "strength 21", "strength 0",
            "strength 100", "strength", "key", "key 6 0", "key 0 10", "key 0", "key 0 0 cut", "key 0 0 cut 4",
            "key 0 0 cut 1 1 1 1", "key 0 0 1", "key 0 0 ward", "lock asks 1 1", "lock asks 1 1 1 1", "lock asks 1 1 x",
            "lock ward ward", "lock ward asks 1 1 1", "lock wards", "may 0 0", "key 0 0;may 0 0", "key 0 0;may 1 0",
            "key 0 0;lock;may 0 1", "key 0 0;lock;may 0 0 0", "lock;places 3", "key 0 0;deep 3", "lock;deep",
            "key 0 0;places", "3", "places 2;key 0 0 cut 1 1 1", "deep 1;lock asks 2", "key 0 0cut1 1 1.",
            "places -1", "key 0 0 cut 1\t", "keys 0 0", "ke 0 0", "may", "lock;key 0 0;may 0", "key 000 0",
            "key 0 0;key 0 0;key 0 0;key 0 0;key 0 0;key 0 0;key ?",
            "lock;lock;lock;lock;lock;lock;lock;lock;lock ?", "lockz", "pey 0 0", "dock", "kez 0 0", "deep", "lock;ward"};
        int[] faults = {0, 3, 0, 5, 6, 5, 5, 0, 4, 0,
            7, 7, 6, 7, 5, 5, 7, 9, 9,
            9, 8, 3, 4, 6, 5, 11, 12,
            18, 8, 8, 13, 16, 14,
            10, 10, 5, 4, 14, 12,
            19, 21, 5, 8, 5,
            8, 0, 25, 17, 15,
            7, 13, 0, 0, 3, 18, 4,
            48, 40, 0, 0, 0, 0, 4, 5};
        for (int i = 0; i < texts.length; i++) {
            CutDeeper x = new CutDeeper();
            d.due("'" + texts[i] + "'", Due.read(x, texts[i]), -20 - faults[i]);
            d.due("is refused", x.status(12), 1);
            d.due("the tape is empty", x.status(8), 0);
            d.due("nothing comes of it", x.status(0) + x.status(1) + x.status(7), 0);
            d.due("nor of that", x.status(2) + 10 * x.status(3) + 100 * x.status(4), 1233);
        }
        CutDeeper y = Due.of("key 3 1 cut 1 2 3;lock asks 1 2 3 ward;may 0 0");
        d.due("comes to what there is", Due.read(y, "lock;may 0 1;key 0 0;may 1 0"), 4);
        d.due("may", y.keyOf(0, 4), 3);
        d.due("may", y.keyOf(1, 4), 1);
        d.due("all or nothing", Due.read(y, "strength 3;may 1 1;lock;key 0 0;may 2 2;may 3 0"), -64);
        d.due("keys", y.status(0), 2);
        d.due("locks", y.status(1), 2);
        d.due("strength", y.status(4), 12);
        d.due("may", y.keyOf(1, 4), 1);
        d.due("no places now", Due.read(y, "places 3"), -20);
        d.due("no deep now", Due.read(y, "deep 3"), -20);
        CutDeeper w = new CutDeeper();
        d.due("strength 1", Due.read(w, "strength 1"), 1);
        d.due("it is", w.status(4), 1);
        d.due("strength 20", Due.read(w, "strength 20"), 1);
        d.due("it is", w.status(4), 20);
        d.due("strength 13", Due.read(w, "strength 07;strength 13"), 2);
        d.due("it is", w.status(4), 13);
        CutDeeper z = new CutDeeper();
        d.due("places twice", Due.read(z, "places 2;places 1;deep 1;deep 4;lock asks 4;key 0 0 cut 4"), 6);
        d.due("fits", z.opens(0, 0, 1), 1);
    }

    private static void keyOf() {
        d.promise("18 keyOf");
        CutDeeper x = Due.of("places 4;deep 2;strength 5;key 1 7 cut 1 0 2 2;key 1 6 cut 2 2 1 1;key 2 3 cut 1 1 0 0;"
            + "key 4 9 cut 0 0 0 1;lock;may 0 0");
        int[][] want = {{1, 7, 5, 0, 1}, {1, 6, 6, 1, 0}, {2, 3, 2, 0, 0}, {4, 9, 1, 1, 0}};
        for (int key = 0; key < 4; key++) {
            for (int what = 0; what < 5; what++) {
                d.due("keyOf(" + key + ", " + what + ")", x.keyOf(key, what), want[key][what]);
            }
        }
        int[] cut = {1, 0, 2, 2};
        for (int place = 0; place < 4; place++) {
            d.due("cut", x.keyOf(0, 10 + place), cut[place]);
            d.due("worn at 3, deep already", x.keyOf(0, 20 + place), cut[place]);
        }
        d.due("worn at 2", x.keyOf(1, 22), 2);
        d.due("worn at 2", x.keyOf(1, 12), 1);
        d.due("not worn", x.keyOf(1, 23), 1);
        d.due("a thin one isn't worn", x.keyOf(2, 23), 0);
        CutDeeper y = Due.of("places 2;deep 4;key 1 0 cut 4 1;lock asks 4 1");
        d.due("worn, deep already", y.keyOf(0, 20), 4);
        d.due("and fits", y.opens(0, 0, 0), 1);
        int[] bad = {-1, 5, 9, 14, 19, 24, Integer.MIN_VALUE, Integer.MAX_VALUE};
        for (int what : bad) {
            d.due("keyOf(0, " + what + ")", x.keyOf(0, what), BAD);
        }
        d.due("keyOf(4, 0)", x.keyOf(4, 0), BAD);
        d.due("keyOf(-1, 0)", x.keyOf(-1, 0), BAD);
    }

    private static void lockOf() {
        d.promise("19 lockOf");
        CutDeeper x = Due.of("lock asks 1 2 3;lock asks 0 0 1 ward");
        d.due("no ward", x.lockOf(0, 0), 0);
        d.due("ward", x.lockOf(1, 0), 1);
        d.due("together", x.lockOf(0, 1), 6);
        d.due("together", x.lockOf(1, 1), 1);
        for (int place = 0; place < 3; place++) {
            d.due("asks", x.lockOf(0, 10 + place), place + 1);
        }
        int[] bad = {-1, 2, 9, 13, 20};
        for (int what : bad) {
            d.due("lockOf(0, " + what + ")", x.lockOf(0, what), BAD);
        }
        d.due("lockOf(2, 0)", x.lockOf(2, 0), BAD);
        d.due("lockOf(-1, 0)", x.lockOf(-1, 0), BAD);
    }

    private static void opens() {
        d.promise("20 opens");
        CutDeeper x = Due.of("strength 4;key 0 0 cut 1 1 1;key 1 2 cut 1 1 1;key 2 2 cut 1 1 1;key 3 0 cut 1 1 1;"
            + "key 4 0 cut 1 1 1;key 5 0 cut 0 0 1;"
            + "lock asks 1 1 1;lock asks 1 1 1 ward;lock asks 1 1 2;lock asks 0 0 1 ward;lock asks 0 2 0");
        int[] fits = {11, 15, 11, 11, 11, 8};
        int[] opens = {1, 5, 0, 11, 1, 9};
        for (int key = 0; key < 6; key++) {
            for (int lock = 0; lock < 5; lock++) {
                d.due("fits " + key + " " + lock, x.opens(key, lock, 0), fits[key] >> lock & 1);
                d.due("opens " + key + " " + lock, x.opens(key, lock, 1), opens[key] >> lock & 1);
            }
        }
        d.due("no key", x.opens(6, 0, 0), BAD);
        d.due("no key", x.opens(-1, 0, 0), BAD);
        d.due("no lock", x.opens(0, 5, 0), BAD);
        d.due("no lock", x.opens(0, -1, 0), BAD);
        d.due("what 2", x.opens(0, 0, 2), BAD);
        d.due("what -1", x.opens(0, 0, -1), BAD);
    }

    private static void opened() {
        d.promise("21 opened");
        CutDeeper x = Due.of("strength 3;key 0 0 cut 1 0 0;key 5 0;key 5 0 cut 2 2 0;key 1 0;lock asks 1 0 0;lock;"
            + "lock asks 1 0 0 ward;lock ward");
        d.due("a key", x.opened(0), 3);
        d.due("a master by it", x.opened(1), 11);
        d.due("a broken master", x.opened(2), 0);
        d.due("worn", x.opened(3), 3);
        x.file(0, 1);
        x.file(0, 1);
        x.file(0, 1);
        d.due("a broken key", x.opened(0), 0);
        d.due("a master by none", x.opened(1), 10);
        d.due("no key", x.opened(4), BAD);
        d.due("no key", x.opened(-1), BAD);
        CutDeeper y = Due.of("key 3 0 cut 1 1 1;key 1 0 cut 1 1 1;key 2 0 cut 1 1 1;key 5 0;key 5 0 cut 2 0 0;"
            + "lock asks 1 1 1");
        d.due("a master by keys of kind KEY alone", y.opened(3), 0);
        d.due("not by masters", y.opened(4), 0);
    }

    private static void who() {
        d.promise("22 who");
        CutDeeper x = Due.of("key 0 0 cut 1 0 0;key 3 0;key 5 0;lock asks 1 0 0;lock ward;lock asks 3 3 3");
        d.due("who(0)", x.who(0), 5);
        d.due("who(1)", x.who(1), 6);
        d.due("who(2)", x.who(2), 0);
        d.due("who(3)", x.who(3), BAD);
        d.due("who(-1)", x.who(-1), BAD);
    }

    private static void wrong() {
        d.promise("23 wrong");
        CutDeeper x = Due.of("key 0 0;key 0 0 cut 1 0 0;lock;lock asks 1 0 0;lock asks 2 0 0;may 0 0;may 1 0;may 1 1");
        d.due("right", x.wrong(), -1);
        x.may(1, 2, true);
        d.due("may, doesn't open", x.wrong(), 12);
        x.may(1, 1, false);
        d.due("opens, may not", x.wrong(), 11);
        x.may(0, 0, false);
        d.due("the first key", x.wrong(), 0);
        d.due("none is refused", x.status(12), 0);
        d.due("no keys", new CutDeeper().wrong(), -1);
    }

    private static void wrongs() {
        d.promise("24 wrongs");
        CutDeeper x = Due.of("key 0 0;key 0 0 cut 1 0 0;lock;lock asks 1 0 0;lock asks 2 0 0;may 0 0;may 1 0;may 1 1");
        d.due("right", x.wrongs(), 0);
        x.may(1, 2, true);
        x.may(1, 0, false);
        x.may(0, 1, true);
        d.due("wrongs", x.wrongs(), 3);
        d.due("no keys", new CutDeeper().wrongs(), 0);
    }

    private static void judge() {
        d.promise("25 judge");
        CutDeeper x = Due.of("key 0 0;key 0 0 cut 1 0 0;lock;lock asks 1 0 0");
        Due.tell(x, 0, 1, 3);
        d.due("as told", x.judge(0), -1);
        Due.tell(x, 0, 1 + 4 + 256, -1, 5);
        d.due("bits of locks there are alone", x.judge(0), -1);
        Due.tell(x, 0, 1, 1L << 32 | 1);
        d.due("fewer than it opens", x.judge(0), 1);
        Due.tell(x, 0, 3, 0);
        d.due("more than it opens", x.judge(0), 0);
        Due.tell(x, 0, 1);
        d.due("too few", x.judge(0), BAD);
        x.row(1, 4, 2);
        x.set(1, 0, 1);
        x.set(1, 1, 1);
        d.due("booleans", x.judge(1), 1);
        d.due("shelf -1", x.judge(-1), BAD);
        d.due("shelf 8", x.judge(8), BAD);
        d.due("nothing", x.judge(2), NOTHING);
        x.show(2, 0);
        d.due("a key", x.judge(2), OTHER);
        d.due("MAY is as it was", x.keyOf(0, 4), 0);
    }

    private static void list() {
        d.promise("26 list");
        CutDeeper x = Due.of("key 0 0;key 0 0;lock;lock;may 0 0");
        Due.tell(x, 0, 2, -1, 7);
        d.due("list", x.list(0), 2);
        d.due("may", x.keyOf(0, 4), 2);
        d.due("bits of locks there are alone", x.keyOf(1, 4), 3);
        Due.tell(x, 0, 0);
        d.due("too few", x.list(0), BAD);
        d.due("as it was", x.keyOf(0, 4), 2);
        d.due("shelf -1", x.list(-1), BAD);
        d.due("shelf 8", x.list(8), BAD);
        d.due("nothing", x.list(2), NOTHING);
        x.show(2, 0);
        d.due("a key", x.list(2), OTHER);
        CutDeeper y = new CutDeeper();
        y.row(0, 0, 0);
        d.due("no keys", y.list(0), 0);
    }
}
