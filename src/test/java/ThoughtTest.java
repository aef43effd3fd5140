/** Promises 27 to 48: what comes of a house, and use in truth. */
public final class ThoughtTest {
    private static final Due d = new Due();
    private static final int BAD = -2, OTHER = -3, NOTHING = -4, STUCK = -5;

    public static void main(String[] args) {
        cuts();
        asked();
        toOpen();
        safe();
        safest();
        mended();
        left();
        idle();
        together();
        pair();
        unlike();
        alike();
        over();
        chain();
        ward();
        found();
        many();
        use();
        days();
        renew();
        mend();
        seed();
        d.end();
    }

    private static void cuts() {
        d.promise("27 cuts");
        CutDeeper x = Due.of("places 2;lock asks 2 0;lock asks 0 2 ward;lock asks 1 1");
        int[] gone = {0, 2, 2, -1, 2, 3, 3, 4};
        int[] first = {0, -1, 0, -1, 1, 2, 1, 2};
        for (int locks = 0; locks < 8; locks++) {
            d.due("cuts(" + locks + ")", x.cuts(locks, -1), gone[locks]);
            if (locks != 1) {
                d.due("cuts(" + locks + ", 0)", x.cuts(locks, 0), first[locks]);
            }
        }
        d.due("cuts(1, 0)", x.cuts(1, 0), 2);
        d.due("cuts(1, 1)", x.cuts(1, 1), 0);
        d.due("cuts(6, 1)", x.cuts(6, 1), 2);
        d.due("none at a place", x.cuts(3, 1), -1);
        d.due("not refused", x.status(12), 0);
        d.due("no such lock", x.cuts(8, -1), BAD);
        d.due("negative", x.cuts(-1, -1), BAD);
        d.due("place 2", x.cuts(0, 2), BAD);
        d.due("place -2", x.cuts(0, -2), BAD);
        d.due("BAD before NONE", x.cuts(3, 2), BAD);
        x.ask(2, 1);
        d.due("strength doesn't count", x.cuts(7, -1), 4);
    }

    private static void asked() {
        d.promise("28 asked");
        CutDeeper x = Due.of("places 2;strength 2;key 0 0 cut 2 0;key 1 1 cut 0 1;key 5 0 cut 1 1");
        // Depths: 2 0; 0 2; 1 1.
        int[] together = {3, 2, 2, -1, 2, 1, 1, 0};
        for (int keys = 0; keys < 8; keys++) {
            d.due("asked(" + keys + ")", x.asked(keys, -1), together[keys]);
        }
        d.due("asked(0, 0)", x.asked(0, 0), 0);
        d.due("asked(0, 1)", x.asked(0, 1), 3);
        d.due("asked(1, 0)", x.asked(1, 0), 2);
        d.due("asked(2, 1)", x.asked(2, 1), 2);
        d.due("asked(4, 0)", x.asked(4, 0), 1);
        d.due("asked(3, 0)", x.asked(3, 0), -1);
        d.due("not refused", x.status(12), 0);
        x.ask(2, 1);
        d.due("broken ones fit", x.asked(4, -1), 2);
        d.due("no such key", x.asked(8, -1), BAD);
        d.due("negative", x.asked(-1, -1), BAD);
        d.due("place 2", x.asked(0, 2), BAD);
        d.due("place -2", x.asked(0, -2), BAD);
        CutDeeper y = Due.of("key 0 0 cut 3 3 3");
        d.due("none", y.asked(0, -1), -1);
    }

    private static void toOpen() {
        d.promise("29 toOpen");
        CutDeeper x = Due.of("strength 6;key 0 0 cut 1 0 0;key 1 2;key 2 2;key 3 0 cut 0 3 0;key 4 0 cut 1 1 1;key 5 0;"
            + "lock asks 3 0 1;lock asks 1 1 1 ward;lock asks 3 3 3;lock asks 1 0 0;lock asks 1 1 1");
        int[][] want = {{6, -1, -1, 0, 2}, {6, -1, -1, 1, 2}, {7, -1, -1, 1, 3}, {-1, 2, -1, 1, 2},
            {-1, -1, -1, 0, 0}, {7, 3, -1, 0, 3}};
        want[3][0] = -1;
        for (int key = 0; key < 6; key++) {
            for (int lock = 0; lock < 5; lock++) {
                d.due("toOpen(" + key + ", " + lock + ")", x.toOpen(key, lock), want[key][lock]);
            }
        }
        d.due("not refused", x.status(12), 0);
        d.due("nothing is filed", x.keyOf(0, 2), 1);
        x.ask(2, 7);
        d.due("it bears more", x.toOpen(3, 0), 7);
        d.due("worn at a place makes up 1", x.toOpen(1, 2), -1);
        x.ask(2, 8);
        d.due("worn at a place makes up 1", x.toOpen(1, 2), 15);
        x.ask(2, 2);
        d.due("broken already", x.toOpen(4, 3), -1);
        d.due("no key", x.toOpen(6, 0), BAD);
        d.due("no key", x.toOpen(-1, 0), BAD);
        d.due("no lock", x.toOpen(0, 5), BAD);
        d.due("no lock", x.toOpen(0, -1), BAD);
    }

    private static void safe() {
        d.promise("30 safe");
        CutDeeper x = Due.of("key 0 0;key 3 0;key 4 0;key 5 0;lock;lock ward;lock asks 1 0 0;lock asks 1 0 0 ward");
        d.due("safe(0)", x.safe(0), 0);
        d.due("safe(1)", x.safe(1), 5);
        d.due("safe(2)", x.safe(2), 4);
        d.due("safe(3)", x.safe(3), 5);
        d.due("safe(4)", x.safe(4), BAD);
        d.due("safe(-1)", x.safe(-1), BAD);
    }

    private static void safest() {
        d.promise("31 safest");
        d.due("no locks", new CutDeeper().safest(), -1);
        d.due("no keys", Due.of("lock;lock").safest(), 0);
        CutDeeper x = Due.of("key 0 0;key 3 0;key 4 0;key 5 0;lock;lock asks 1 0 0;lock ward;lock asks 1 0 0 ward");
        d.due("the first of most", x.safest(), 2);
        d.due("not refused", x.status(15), 0);
    }

    private static void mended() {
        d.promise("32 mended");
        CutDeeper x = Due.of("places 2;strength 4;key 0 0;key 0 0 cut 2 0;key 0 0;key 4 0;key 3 0 cut 3 1;"
            + "lock asks 1 2;lock asks 2 1;lock asks 2 0;may 0 0;may 1 2;may 2 1;may 2 2;may 4 2");
        // 0: cut 1 2 costs 4. 1: opens just lock 2. 2: cut 2 1. 3: opens none. 4: opens 1 and 2, until it breaks.
        d.due("coins", x.mended(0), 8);
        d.due("can't", x.mended(1), 16);
        x.may(4, 2, false);
        d.due("breaks and opens none", x.mended(1), 0);
        d.due("coins", x.mended(0), 10);
        x.may(3, 0, true);
        d.due("a blank can't", x.mended(1), 8);
        x.may(0, 2, true);
        x.may(0, 0, true);
        x.may(0, 1, false);
        x.file(0, 0);
        x.file(0, 0);
        x.file(0, 0);
        d.due("two can't", x.mended(1), 8 + 1);
        d.due("what 2", x.mended(2), BAD);
        d.due("what -1", x.mended(-1), BAD);
        d.due("nothing is filed", x.keyOf(1, 2), 2);
        d.due("no coins", x.status(5), 6);
        CutDeeper y = Due.of("key 5 0;key 0 0;lock asks 1 0 0;lock asks 2 0 0;may 0 0;may 0 1;may 1 0;may 1 1");
        d.due("others as they are", y.mended(0), 6);
    }

    private static void left() {
        d.promise("33 left");
        CutDeeper x = Due.of("strength 5;key 0 9 cut 1 1 1;key 2 3 cut 1 0 0;key 4 9;key 1 0 cut 3 3 0;key 4 1 cut 1 0 0;"
            + "key 5 2 cut 1 0 0");
        int[] want = {2, 1, 0, 0, 3, 4};
        for (int key = 0; key < 6; key++) {
            d.due("left(" + key + ")", x.left(key), want[key]);
        }
        d.due("left(6)", x.left(6), BAD);
        d.due("left(-1)", x.left(-1), BAD);
    }

    private static void idle() {
        d.promise("34 idle");
        CutDeeper x = Due.of("lock asks 0 1 0;lock asks 0 2 1;lock");
        d.due("idle(0)", x.idle(0), 3);
        d.due("idle(1)", x.idle(1), 1);
        d.due("idle(2)", x.idle(2), 2);
        d.due("idle(3)", x.idle(3), BAD);
        d.due("idle(-1)", x.idle(-1), BAD);
        d.due("no locks", new CutDeeper().idle(0), 0);
    }

    private static void together() {
        d.promise("35 together");
        CutDeeper x = Due.of("strength 4;key 1 2 cut 1 0 0;key 2 9 cut 0 1 0;key 5 0 cut 0 2 2;key 0 0 cut 0 0 2;"
            + "lock asks 1 1 0;lock asks 1 1 1;lock ward;lock asks 0 2 2");
        d.due("together(0, 1)", x.together(0, 1), 1);
        d.due("together(1, 0)", x.together(1, 0), 1);
        d.due("it breaks", x.together(0, 2), 0);
        d.due("together(1, 2)", x.together(1, 2), 8);
        d.due("together(1, 3)", x.together(1, 3), 0);
        d.due("one key twice", x.together(1, 1), BAD);
        d.due("no key", x.together(4, 0), BAD);
        d.due("no key", x.together(0, 4), BAD);
        d.due("no key", x.together(-1, 0), BAD);
        d.due("no key", x.together(0, -1), BAD);
    }

    private static void pair() {
        d.promise("36 pair");
        CutDeeper x = Due.of("key 0 0;lock asks 1 1 0;lock asks 1 1 1;lock asks 0 0 0");
        d.due("one key", x.pair(), STUCK);
        x.key(0, 0);
        d.due("two", x.pair(), 1);
        d.due("no locks", Due.of("key 0 0;key 0 0;key 0 0").pair(), 1);
        Due.read(x, "key 0 0 cut 1 0 0;key 0 0 cut 0 1 0;key 0 0 cut 0 1 0;key 0 0 cut 1 0 0");
        d.due("the first that open most", x.pair(), 23);
        d.due("no keys", new CutDeeper().pair(), STUCK);
    }

    private static void unlike() {
        d.promise("37 unlike");
        int[][] want = {{1, 1, 1, 1}, {2, 3, 4, 5}, {3, 7, 12, 19}, {6, 19, 44, 85}, {10, 51, 155, 381}};
        for (int places = 1; places <= 5; places++) {
            for (int deep = 1; deep <= 4; deep++) {
                CutDeeper x = new CutDeeper();
                x.ask(0, places);
                x.ask(1, deep);
                d.due("unlike of " + places + ", " + deep, x.unlike(), want[places - 1][deep - 1]);
            }
        }
    }

    private static void alike() {
        d.promise("38 alike");
        d.due("no locks", new CutDeeper().alike(), -1);
        CutDeeper x = Due.of("lock asks 1 2 0;lock asks 2 1 0;lock asks 0 0 3");
        d.due("none", x.alike(), -1);
        x.asks(2, 2, 0);
        d.due("as much as that", x.alike(), 2);
        x.asks(2, 1, 2);
        x.asks(2, 0, 1);
        d.due("the same", x.alike(), 2);
        x.asks(2, 2, 1);
        d.due("the later one", x.alike(), 20);
        x.asks(2, 0, 2);
        d.due("the first of two", x.alike(), 20);
        d.due("wards don't count", Due.of("lock ward;lock").alike(), 1);
        d.due("not refused", x.status(15), 0);
    }

    private static void over() {
        d.promise("39 over");
        CutDeeper x = Due.of("key 0 0 cut 1 0 0;key 0 0 cut 1 1 0;key 0 0 cut 0 1 0;key 0 0 cut 1 0 3;key 0 0;"
            + "lock asks 1 0 0;lock asks 0 1 0");
        int[] want = {2 + 8, 0, 2, 1 + 2, 1 + 2 + 4 + 8};
        for (int key = 0; key < 5; key++) {
            d.due("over(" + key + ")", x.over(key), want[key]);
        }
        d.due("over(5)", x.over(5), BAD);
        d.due("over(-1)", x.over(-1), BAD);
    }

    private static void chain() {
        d.promise("40 chain");
        d.due("no keys", new CutDeeper().chain(), 0);
        CutDeeper x = Due.of("lock asks 1 0 0;lock asks 2 0 0;lock asks 3 0 0;lock asks 0 1 0;key 0 0 cut 1 0 0");
        d.due("one", x.chain(), 1);
        Due.read(x, "key 0 0 cut 1 0 0;key 0 0 cut 0 1 0");
        d.due("none is over another", x.chain(), 1);
        Due.read(x, "key 0 0 cut 3 0 0");
        d.due("two", x.chain(), 2);
        Due.read(x, "key 0 0;key 0 0 cut 2 0 0");
        d.due("four", x.chain(), 4);
        x.file(3, 1);
        d.due("four still", x.chain(), 4);
        CutDeeper y = Due.of("places 1;deep 4;key 0 0 cut 4;key 0 0 cut 3;key 0 0 cut 2;key 0 0 cut 1;key 0 0;"
            + "key 4 9 cut 4;lock;lock asks 1;lock asks 2;lock asks 3;lock asks 4");
        d.due("six", y.chain(), 6);
        y.ask(2, 3);
        d.due("some are broken", y.chain(), 5);
        y.ask(2, 1);
        d.due("more are broken", y.chain(), 3);
        CutDeeper z = Due.of("places 1;key 0 0 cut 2;key 0 0 cut 1;key 0 0;lock;lock asks 1;lock asks 2");
        d.due("three", z.chain(), 3);
        z.file(2, 0);
        d.due("two, for two open the same", z.chain(), 2);
        CutDeeper w = Due.of("places 1;key 0 0;key 0 0 cut 2;key 0 0 cut 1;lock;lock asks 1;lock asks 2");
        d.due("the least is the first", w.chain(), 3);
        d.due("the least is the first of two", Due.of("key 0 0;key 0 0 cut 1 0 0;lock asks 1 0 0").chain(), 2);
    }

    private static void ward() {
        d.promise("41 ward");
        CutDeeper x = Due.of("key 0 0 cut 1 0 0;key 3 0 cut 1 0 0;key 5 0;key 5 0 cut 1 0 0;key 1 0;key 3 0;"
            + "lock asks 1 0 0;lock ward;lock asks 2 0 0");
        d.due("who(0)", x.who(0), 1 + 2 + 4 + 8 + 16);
        d.due("ward(0)", x.ward(0), 3);
        d.due("ward(2)", x.ward(2), 0);
        d.due("it has one", x.ward(1), STUCK);
        d.due("ward(3)", x.ward(3), BAD);
        d.due("ward(-1)", x.ward(-1), BAD);
        d.due("no ward yet", x.lockOf(0, 0), 0);
    }

    private static void found() {
        d.promise("42 found");
        CutDeeper x = Due.of("strength 4;key 0 0 cut 1 0 0;key 1 1 cut 1 1 1;key 2 1;key 3 0 cut 2 0 0;"
            + "key 4 0 cut 1 1 1;key 4 0;lock asks 1 1 1;lock asks 0 2 0;lock ward");
        Due.tell(x, 0, 1, 1, 1, 99);
        d.due("no locks", x.found(0, 0), 1 + 2 + 4 + 16);
        d.due("lock 0", x.found(0, 1), 1 + 2 + 4 + 16);
        d.due("worn", x.found(0, 3), 2);
        d.due("a ward", x.found(0, 4), 0);
        Due.tell(x, 0, 2, 1, 1);
        d.due("deeper", x.found(0, 5), 8);
        d.due("deeper", x.found(0, 1), 1 + 2 + 8);
        d.due("broken ones may have been it", x.found(0, 0), 1 + 2 + 4 + 8);
        d.due("no such lock", x.found(0, 8), BAD);
        d.due("negative", x.found(0, -1), BAD);
        d.due("shelf -1", x.found(-1, 0), BAD);
        d.due("shelf 8", x.found(8, 0), BAD);
        d.due("nothing", x.found(1, 0), NOTHING);
        d.due("the set goes first", x.found(1, 8), BAD);
        x.show(1, 0);
        d.due("a key", x.found(1, 0), OTHER);
        Due.tell(x, 0, 1, 1);
        d.due("too few", x.found(0, 0), BAD);
        Due.tell(x, 0, 1, 1, 4);
        d.due("too deep", x.found(0, 0), BAD);
        Due.tell(x, 0, 3, 1, 0);
        d.due("as deep as can be", x.found(0, 0), 1 + 4 + 8);
        Due.tell(x, 0, -1, 1, 1);
        d.due("negative", x.found(0, 0), BAD);
        Due.tell(x, 0, 1L << 32, 1, 1);
        d.due("far too deep", x.found(0, 0), BAD);
        CutDeeper y = Due.of("key 5 0;key 0 0 cut 1 1 0;lock asks 1 1 0");
        Due.tell(y, 0, 1, 0, 0);
        d.due("a master, others as they are", y.found(0, 1), 1);
    }

    private static void many() {
        d.promise("43 many");
        CutDeeper x = Due.of("places 2;deep 2;lock asks 1 0;lock asks 0 2 ward");
        int[] want = {2, 4, 1, 2};
        for (int locks = 0; locks < 4; locks++) {
            d.due("many(" + locks + ")", x.many(locks), want[locks]);
        }
        d.due("many(4)", x.many(4), BAD);
        d.due("many(-1)", x.many(-1), BAD);
        CutDeeper y = new CutDeeper();
        y.ask(0, 5);
        y.ask(1, 4);
        d.due("all rows", y.many(0), 3125);
    }

    /** The draws as the document has them, by a seed of the test's own. */
    private static int seed;

    private static int draw(int n) {
        seed = seed * 1103515245 + 12345;
        return (seed >>> 16) % n;
    }

    private static void use() {
        d.promise("44 use");
        int deeper = 0;
        int deepAlready = 0;
        for (int first = -20; first < 60; first++) {
            CutDeeper x = Due.of("deep 2;key 4 0 cut 2 0 1;lock;lock asks 2 2 2");
            x.seed(first);
            seed = first;
            int[] cut = {2, 0, 1};
            int want = 0;
            if (draw(4) == 0) {
                int place = draw(3);
                want = cut[place] < 2 ? 1 : 0;
                deepAlready += 1 - want;
                deeper += want;
                cut[place] = Math.min(2, cut[place] + 1);
            }
            d.due("use", x.use(0, 0), want);
            d.due("seed", x.status(9), seed);
            for (int place = 0; place < 3; place++) {
                d.due("cut", x.keyOf(0, 10 + place), cut[place]);
            }
            d.due("for nothing", x.status(5), 0);
        }
        d.due("both were seen", deeper > 0 && deepAlready > 0 ? 1 : 0, 1);
        CutDeeper y = Due.of("key 0 0;lock;lock asks 1 0 0");
        d.due("doesn't open", y.use(0, 1), STUCK);
        d.due("no draw", y.status(9), 1);
        d.due("no key", y.use(1, 0), BAD);
        d.due("no key", y.use(-1, 0), BAD);
        d.due("no lock", y.use(0, 2), BAD);
        d.due("no lock", y.use(0, -1), BAD);
    }

    private static void days() {
        d.promise("45 days");
        CutDeeper x = Due.of("key 0 0 cut 1 0 0;key 1 1;key 3 0;lock asks 1 0 0;lock asks 0 1 0 ward;lock asks 0 0 1;lock");
        CutDeeper y = Due.of("key 0 0 cut 1 0 0;key 1 1;key 3 0;lock asks 1 0 0;lock asks 0 1 0 ward;lock asks 0 0 1;lock");
        x.seed(42);
        seed = 42;
        for (int round = 0; round < 10; round++) {
            int uses = 0;
            for (int day = 0; day < 7; day++) {
                int key = draw(3);
                int lock = draw(4);
                if (y.opens(key, lock, 1) == 1) {
                    uses++;
                    y.seed(seed);
                    y.use(key, lock);
                    seed = y.status(9);
                }
            }
            d.due("days(7)", x.days(7), uses);
            d.due("seed", x.status(9), seed);
            for (int key = 0; key < 3; key++) {
                for (int place = 0; place < 3; place++) {
                    d.due("cut", x.keyOf(key, 10 + place), y.keyOf(key, 10 + place));
                }
            }
        }
        d.due("days(1)", x.days(1) >= 0 ? 1 : 0, 1);
        d.due("days(40)", x.days(40) >= 0 ? 1 : 0, 1);
        d.due("days(0)", x.days(0), BAD);
        d.due("days(41)", x.days(41), BAD);
        CutDeeper z = new CutDeeper();
        d.due("neither", z.days(1), STUCK);
        d.due("BAD goes first", z.days(0), BAD);
        z.key(0, 0);
        d.due("no locks", z.days(1), STUCK);
        CutDeeper w = Due.of("lock");
        d.due("no keys", w.days(1), STUCK);
        d.due("no draw", w.status(9), 1);
    }

    private static void renew() {
        d.promise("46 renew");
        CutDeeper x = Due.of("strength 3;key 2 3;key 5 4 cut 2 2 0;key 0 0;lock;lock ward;may 1 0;may 1 1");
        x.show(0, 1);
        d.due("it isn't broken", x.renew(0), STUCK);
        d.due("renew(1)", x.renew(1), 5);
        d.due("holds(0)", x.holds(0), 11);
        int[] want = {0, 4, 0, 0, 3};
        for (int what = 0; what < 5; what++) {
            d.due("keyOf(1, " + what + ")", x.keyOf(1, what), want[what]);
        }
        for (int place = 0; place < 3; place++) {
            d.due("cut", x.keyOf(1, 10 + place), 0);
        }
        d.due("it opens as a KEY", x.opened(1), 1);
        d.due("it isn't broken now", x.renew(1), STUCK);
        d.due("renew(3)", x.renew(3), BAD);
        d.due("renew(-1)", x.renew(-1), BAD);
    }

    private static void mend() {
        d.promise("47 mend");
        CutDeeper x = Due.of("places 2;strength 4;key 0 0;key 0 0 cut 2 0;key 0 0;key 4 0;key 3 0 cut 3 1;"
            + "lock asks 1 2;lock asks 2 1;lock asks 2 0;may 0 0;may 1 2;may 2 1;may 2 2;may 4 2");
        d.due("mend", x.mend(), 8);
        d.due("coins", x.status(5), 8);
        int[][] want = {{1, 2}, {2, 0}, {2, 1}, {0, 0}, {3, 1}};
        for (int key = 0; key < 5; key++) {
            d.due("cut of " + key, 10 * x.keyOf(key, 10) + x.keyOf(key, 11), 10 * want[key][0] + want[key][1]);
        }
        d.due("mended", x.mended(0), 0);
        d.due("wrong", x.wrong(), 41);
        d.due("mend again", x.mend(), 0);
        CutDeeper y = Due.of("places 2;strength 2;key 0 0;lock");
        d.due("the first of those that cost least", y.mend(), 4);
        d.due("1 at 0, 2 at 1", 10 * y.keyOf(0, 10) + y.keyOf(0, 11), 12);
        CutDeeper z = Due.of("key 5 0;key 0 0;lock asks 1 0 0;may 0 0;may 1 0");
        d.due("all at once, others as they are", z.mend(), 2);
        d.due("the master, too", z.keyOf(0, 10), 1);
        d.due("no keys", new CutDeeper().mend(), 0);
    }

    private static void seed() {
        d.promise("48 seed");
        CutDeeper x = new CutDeeper();
        d.due("seed(5)", x.seed(5), 1);
        d.due("seed(smallest)", x.seed(Integer.MIN_VALUE), 5);
        d.due("seed(0)", x.seed(0), Integer.MIN_VALUE);
        d.due("status(9)", x.status(9), 0);
    }
}
