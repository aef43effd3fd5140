/** Promises 27 to 48 and what section 3 says of them: the sentences that name an edge, each by a test of its own. */
public final class ThoughtEdgesTest {
    private static final Due d = new Due();
    private static final int BAD = -2, STUCK = -5;
    private static final int MIN = Integer.MIN_VALUE, MAX = Integer.MAX_VALUE;
    private static final String EIGHT_LOCKS = "lock;lock;lock;lock;lock;lock;lock;lock";
    private static final String SIX_KEYS = "key 0 0;key 0 0;key 0 0;key 0 0;key 0 0;key 0 0";

    public static void main(String[] args) {
        cutsForNoLocks();
        cutsAsDeepAsCanBe();
        cutsThereAreNone();
        cutsWhateverElseThereIs();
        cutsAtEachPlace();
        asksForNoKeys();
        asksThereAreNone();
        asksFirstOfSeveral();
        asksByDepth();
        opensAlready();
        opensAsDeepAsCanBe();
        opensUpToStrength();
        opensByKind();
        opensWhereItIsWorn();
        opensByOthers();
        safeNoneAndAll();
        safestFirstOfMost();
        mendedNoneAndAll();
        mendedIsNotFiled();
        mendedByBreaking();
        mendedFirstOfSeveral();
        leftUntilBroken();
        idleNoneAndAll();
        togetherUntilBroken();
        togetherOfKindKey();
        pairsFewest();
        pairsFirstAndLast();
        unlikeOfHalfCut();
        alikeNoneAndSame();
        alikeFirstAndLast();
        overNoneAndAll();
        chainOfNoneAndAll();
        wardNoneAndAll();
        foundRows();
        foundBlanks();
        foundNoneAndAll();
        foundBroken();
        manyNoneAndAll();
        usedOrNot();
        usedAtEachPlace();
        usedWhereItIsDeep();
        usedBlanks();
        usedUntilBroken();
        seedsThatWrap();
        daysOneAndForty();
        daysWithoutKeysOrLocks();
        renewedOnceBroken();
        renewedWithoutCuts();
        mendsAll();
        seedsOfAllInts();
        d.end();
    }

    private static void dueCuts(CutDeeper x, int key, int... want) {
        for (int place = 0; place < want.length; place++) {
            d.due("cut of " + key + " at " + place, x.keyOf(key, 10 + place), want[place]);
        }
    }

    private static void cutsForNoLocks() {
        d.promise("27 CUTS for a set of LOCKS: the empty one");
        CutDeeper x = new CutDeeper();
        d.due("no locks", x.cuts(0, -1), 0);
        d.due("at the last place", x.cuts(0, 2), 0);
        d.due("a lock there is not", x.cuts(1, -1), BAD);
        Due.read(x, "lock asks 0 0 1");
        d.due("a lock left out", x.cuts(0, -1), 0);
        d.due("the next there is not", x.cuts(2, -1), BAD);
        d.due("nor all bits", x.cuts(-1, -1), BAD);
        CutDeeper y = Due.of(EIGHT_LOCKS);
        d.due("all", y.cuts(255, -1), 0);
        d.due("the ninth", y.cuts(256, -1), BAD);
        d.due("all but one", y.cuts(127, -1), -1);
    }

    private static void cutsAsDeepAsCanBe() {
        d.promise("27 CUTS up to DEEP at all PLACES");
        for (int places = 1; places <= 5; places++) {
            for (int deep = 1; deep <= 4; deep++) {
                CutDeeper x = new CutDeeper();
                x.ask(0, places);
                x.ask(1, deep);
                x.lock(false);
                for (int place = 0; place < places; place++) {
                    x.asks(0, place, deep);
                }
                d.due("together", x.cuts(1, -1), places * deep);
                d.due("at the last place", x.cuts(1, places - 1), deep);
                d.due("none of it", x.cuts(0, -1), 0);
                d.due("behind the last place", x.cuts(1, places), BAD);
            }
        }
    }

    private static void cutsThereAreNone() {
        d.promise("27 NONE: there are none. (NONE isn't refused.)");
        CutDeeper x = Due.of("lock;lock asks 1 0 0;lock asks 2 0 0");
        d.due("each key fits the first", x.cuts(0, -1), -1);
        d.due("and at a place", x.cuts(0, 0), -1);
        d.due("the deeper one alone", x.cuts(1 + 4, -1), -1);
        d.due("the first alone", x.cuts(1, -1), 0);
        d.due("not refused", x.status(12), 0);
        d.due("BAD place", x.cuts(0, 3), BAD);
        d.due("BAD place", x.cuts(0, -2), BAD);
    }

    private static void cutsWhateverElseThereIs() {
        d.promise("27 by which it would FIT just these (wards don't count), BROKEN or not");
        CutDeeper x = Due.of("strength 1;lock asks 3 3 3 ward;lock asks 1 0 0 ward;" + SIX_KEYS);
        d.due("both", x.cuts(3, -1), 9);
        d.due("one", x.cuts(2, -1), 1);
        d.due("none", x.cuts(0, -1), 0);
        d.due("the deepest fits both", x.cuts(1, -1), -1);
    }

    private static void cutsAtEachPlace() {
        d.promise("27 the CUT at a PLACE: that of the least GONE");
        CutDeeper x = Due.of("places 5;deep 4;lock asks 4 0 0 1 0;lock asks 0 3 0 0 2;lock asks 0 0 4 0 0");
        int[] want = {4, 3, 0, 1, 2};
        for (int place = 0; place < 5; place++) {
            d.due("cut at " + place, x.cuts(3, place), want[place]);
        }
        d.due("gone", x.cuts(3, -1), 10);
    }

    private static void asksForNoKeys() {
        d.promise("28 ASKS for a set of KEYS: the empty one");
        CutDeeper x = new CutDeeper();
        d.due("no keys", x.asked(0, -1), 0);
        d.due("at the last place", x.asked(0, 2), 0);
        d.due("a key there is not", x.asked(1, -1), BAD);
        Due.read(x, "key 0 0");
        d.due("a key left out", x.asked(0, -1), 1);
        d.due("the next there is not", x.asked(2, -1), BAD);
        d.due("nor all bits", x.asked(-1, -1), BAD);
        CutDeeper y = Due.of(SIX_KEYS);
        d.due("all", y.asked(63, -1), 0);
        d.due("the seventh", y.asked(64, -1), BAD);
        d.due("all but one", y.asked(31, -1), -1);
        d.due("place 3", y.asked(63, 3), BAD);
        d.due("place -2", y.asked(63, -2), BAD);
    }

    private static void asksThereAreNone() {
        d.promise("28 NONE: there are none. (NONE isn't refused.)");
        for (int deep = 1; deep <= 4; deep++) {
            CutDeeper x = new CutDeeper();
            x.ask(0, 1);
            x.ask(1, deep);
            x.key(0, 0);
            for (int cut = 0; cut < deep; cut++) {
                d.due("to keep out a cut of " + cut, x.asked(0, -1), cut + 1);
                d.due("at the place", x.asked(0, 0), cut + 1);
                x.file(0, 0);
            }
            d.due("none keeps out one as deep as can be", x.asked(0, -1), -1);
            d.due("nor at the place", x.asked(0, 0), -1);
            d.due("it may come in", x.asked(1, -1), 0);
            d.due("not refused", x.status(12), 0);
        }
    }

    private static void asksFirstOfSeveral() {
        d.promise("28 of several the first");
        CutDeeper x = Due.of("key 0 0 cut 1 1 1;key 0 0");
        int[] want = {0, 0, 1};
        for (int place = 0; place < 3; place++) {
            d.due("asks at " + place, x.asked(1, place), want[place]);
        }
        x.file(1, 2);
        want = new int[] {0, 1, 0};
        for (int place = 0; place < 3; place++) {
            d.due("asks at " + place, x.asked(1, place), want[place]);
        }
        x.file(1, 1);
        d.due("the one that is left", x.asked(1, 0), 1);
        CutDeeper y = Due.of("key 0 0 cut 1 1 1");
        d.due("together", y.asked(0, -1), 2);
        d.due("of three the first", y.asked(0, 2), 2);
    }

    private static void asksByDepth() {
        d.promise("28 by which just these KEYS would FIT it: by DEPTH, BROKEN or not");
        CutDeeper x = Due.of("strength 1;key 1 5 cut 1 1 0;key 0 0 cut 1 1 0;key 4 9 cut 0 1 0");
        d.due("the worn one", x.asked(1, 2), 1);
        d.due("together", x.asked(1, -1), 1);
        d.due("not the last", x.asked(3, 0), 1);
        d.due("the last alone", x.asked(4, -1), -1);
    }

    private static void opensAlready() {
        d.promise("29 TO OPEN: 0, it OPENS it already");
        for (int kind = 0; kind <= 5; kind++) {
            CutDeeper x = Due.of("strength 1;key " + kind + " 0 cut 1 0 0;lock;lock asks 1 0 0;lock ward");
            d.due("it asks nothing", x.toOpen(0, 0), 0);
            d.due("it asks as much", x.toOpen(0, 1), 0);
            d.due("a ward", x.toOpen(0, 2), kind == 3 || kind == 5 ? 0 : -1);
        }
    }

    private static void opensAsDeepAsCanBe() {
        d.promise("29 TO OPEN: the most coins, 1 and 2 up to DEEP at each PLACE");
        for (int places = 1; places <= 5; places++) {
            for (int deep = 1; deep <= 4; deep++) {
                CutDeeper x = new CutDeeper();
                x.ask(0, places);
                x.ask(1, deep);
                x.ask(2, 20);
                x.key(0, 0);
                x.lock(false);
                for (int place = 0; place < places; place++) {
                    x.asks(0, place, deep);
                }
                int all = places * deep * (deep + 1) / 2;
                d.due("coins", x.toOpen(0, 0), all);
                x.file(0, places - 1);
                d.due("1 less", x.toOpen(0, 0), all - 1);
            }
        }
    }

    private static void opensUpToStrength() {
        d.promise("29 TO OPEN: NONE, for it would be BROKEN");
        CutDeeper x = Due.of("strength 4;key 0 0;key 2 1;key 2 0;lock asks 2 1 1;lock asks 1 1 1");
        d.due("as much as it bears", x.toOpen(0, 0), 5);
        d.due("1 more than a thin one bears", x.toOpen(1, 0), -1);
        d.due("as much as that bears", x.toOpen(1, 1), 3);
        d.due("a thin one with a 0", x.toOpen(2, 0), 5);
        x.ask(2, 3);
        d.due("1 more than it bears", x.toOpen(0, 0), -1);
        x.file(0, 0);
        x.file(0, 0);
        d.due("what it needn't have cut counts", x.toOpen(0, 1), -1);
        CutDeeper y = Due.of("strength 1;key 0 0 cut 2 0 0;lock");
        d.due("broken already, though it fits", y.toOpen(0, 0), -1);
        d.due("NONE isn't refused", y.status(12), 0);
    }

    private static void opensByKind() {
        d.promise("29 TO OPEN: a BLANK can't be filed; a WARD only by WARDED (or MASTER)");
        int[] coins = {1, 0, 1, 1, -1, 1};
        int[] warded = {-1, -1, -1, 1, -1, 1};
        for (int kind = 0; kind <= 5; kind++) {
            CutDeeper x = Due.of("key " + kind + " 0;lock asks 1 0 0;lock asks 1 0 0 ward");
            d.due("kind " + kind, x.toOpen(0, 0), coins[kind]);
            d.due("kind " + kind + ", a ward", x.toOpen(0, 1), warded[kind]);
        }
    }

    private static void opensWhereItIsWorn() {
        d.promise("29 TO OPEN by DEPTH (DEEP at most)");
        for (int deep = 1; deep <= 4; deep++) {
            for (int asks = 0; asks <= deep; asks++) {
                CutDeeper x = new CutDeeper();
                x.ask(1, deep);
                x.key(1, 4);
                x.lock(false);
                x.asks(0, 1, asks);
                d.due("worn, " + asks + " of " + deep, x.toOpen(0, 0), asks * (asks - 1) / 2);
                x.asks(0, 1, 0);
                x.asks(0, 0, asks);
                d.due("not worn, " + asks + " of " + deep, x.toOpen(0, 0), asks * (asks + 1) / 2);
            }
        }
    }

    private static void opensByOthers() {
        d.promise("29 TO OPEN (others as they are)");
        CutDeeper x = Due.of("strength 3;key 5 0;key 0 0 cut 3 0 0;key 5 0 cut 2 2 0;key 3 0 cut 0 3 0;"
            + "lock asks 3 0 0;lock asks 0 3 0;lock asks 3 0 0 ward");
        d.due("a key opens it", x.toOpen(0, 0), 0);
        d.due("broken, though a key opens it", x.toOpen(2, 0), -1);
        d.due("none of kind KEY does", x.toOpen(0, 1), 6);
        d.due("nor with a ward", x.toOpen(0, 2), 6);
        x.file(1, 1);
        d.due("that key is broken", x.toOpen(0, 0), 6);
    }

    private static void safeNoneAndAll() {
        d.promise("30 SAFE: none, all");
        d.due("no keys", Due.of("lock asks 3 3 3 ward").safe(0), 0);
        CutDeeper x = Due.of("strength 1;" + SIX_KEYS + ";lock;lock asks 1 0 0;lock asks 1 0 0 ward;lock asks 1 1 0");
        d.due("none", x.safe(0), 0);
        d.due("none, for a coin", x.safe(1), 0);
        d.due("all, by the ward", x.safe(2), 63);
        d.due("all, they would break", x.safe(3), 63);
        d.due("no such lock", x.safe(4), BAD);
        x.file(5, 2);
        d.due("the last now, too", x.safe(1), 32);
    }

    private static void safestFirstOfMost() {
        d.promise("31 the first LOCK of which most KEYS are SAFE; NONE: no LOCKS");
        d.due("no locks", new CutDeeper().safest(), -1);
        d.due("no locks, keys", Due.of(SIX_KEYS).safest(), -1);
        d.due("no keys", Due.of(EIGHT_LOCKS).safest(), 0);
        CutDeeper x = Due.of("key 0 0;" + EIGHT_LOCKS);
        d.due("none is safe", x.safest(), 0);
        x.key(4, 0);
        x.asks(7, 0, 1);
        d.due("the last", x.safest(), 7);
        x.asks(3, 0, 1);
        d.due("the first of two", x.safest(), 3);
        d.due("NONE isn't refused", new CutDeeper().status(12), 0);
    }

    private static void mendedNoneAndAll() {
        d.promise("32 MENDED: no KEYS, all, none");
        CutDeeper none = new CutDeeper();
        d.due("no keys", none.mended(0), 0);
        d.due("no keys", none.mended(1), 0);
        CutDeeper x = Due.of("strength 20;" + SIX_KEYS + ";lock");
        d.due("none can", x.mended(1), 63);
        d.due("no coins", x.mended(0), 0);
        for (int key = 0; key < 6; key++) {
            x.may(key, 0, true);
        }
        d.due("all can", x.mended(1), 0);
        d.due("for nothing", x.mended(0), 0);
        x.asks(0, 2, 3);
        d.due("all can", x.mended(1), 0);
        d.due("for 1 and 2 and 3", x.mended(0), 36);
        d.due("what -1", x.mended(-1), BAD);
        d.due("what 2", x.mended(2), BAD);
    }

    private static void mendedIsNotFiled() {
        d.promise("32 (Least coins of 0: it isn't FILED.)");
        CutDeeper x = Due.of("key 4 0 cut 1 0 0;key 4 0;key 0 0 cut 1 0 0;lock asks 1 0 0;may 0 0;may 2 0");
        d.due("right as they are", x.mended(0), 0);
        d.due("a BLANK, too", x.mended(1), 0);
        x.may(1, 0, true);
        d.due("a BLANK that is wrong can't", x.mended(1), 2);
        x.may(2, 0, false);
        d.due("nor can be uncut what is cut", x.mended(1), 2 + 4);
    }

    private static void mendedByBreaking() {
        d.promise("32 so that it OPENS just what it MAY: nothing at all");
        CutDeeper x = Due.of("places 2;deep 2;strength 3;key 0 0;key 2 3;key 2 9 cut 1 0;lock");
        d.due("all can", x.mended(1), 0);
        d.due("2 and 2 cost 6; 1 costs 1; broken already", x.mended(0), 6 + 1);
        x.ask(2, 4);
        d.due("a KEY can't break now", x.mended(1), 1);
        d.due("thin ones still can", x.mended(0), 2);
    }

    private static void mendedFirstOfSeveral() {
        d.promise("32 of several ways that with the first row of CUTS (PLACE by PLACE)");
        CutDeeper x = Due.of("strength 1;key 0 0;lock");
        d.due("coins", x.mended(0), 2);
        d.due("in truth", x.mend(), 2);
        dueCuts(x, 0, 0, 1, 1);
        CutDeeper y = Due.of("strength 1;key 0 0 cut 0 0 1;lock");
        d.due("in truth", y.mend(), 1);
        dueCuts(y, 0, 0, 1, 1);
        CutDeeper z = Due.of("strength 2;deep 1;key 0 0 cut 1 0 0;lock");
        d.due("in truth", z.mend(), 2);
        dueCuts(z, 0, 1, 1, 1);
    }

    private static void leftUntilBroken() {
        d.promise("33 how much more can be GONE (0: none, or it is BROKEN)");
        for (int kind = 0; kind <= 5; kind++) {
            boolean thin = kind == 2 || kind == 4;
            for (int strength = 1; strength <= 8; strength++) {
                CutDeeper x = Due.of("strength " + strength + ";key " + kind + " 2 cut 2 2 1");
                int most = thin ? Math.max(0, strength - 2) : strength;
                d.due("kind " + kind + " of " + strength, x.left(0), Math.max(0, most - 5));
                d.due("broken", x.keyOf(0, 3), most < 5 ? 1 : 0);
            }
        }
        d.due("all of it", Due.of("strength 8;key 0 0").left(0), 8);
        d.due("nothing is borne", Due.of("strength 1;key 2 9").left(0), 0);
    }

    private static void idleNoneAndAll() {
        d.promise("34 how many LOCKS ASK 0 at a PLACE: none, all");
        CutDeeper x = new CutDeeper();
        d.due("no locks", x.idle(0), 0);
        Due.read(x, EIGHT_LOCKS);
        d.due("all", x.idle(2), 8);
        for (int lock = 0; lock < 8; lock++) {
            x.asks(lock, 2, 1 + lock % 3);
            d.due("one fewer", x.idle(2), 7 - lock);
        }
        d.due("elsewhere all", x.idle(1), 8);
        d.due("no place", x.idle(3), BAD);
        d.due("no place", x.idle(-1), BAD);
        x.asks(7, 2, 0);
        d.due("one again", x.idle(2), 1);
    }

    private static void togetherUntilBroken() {
        d.promise("35 LOCKS it would OPEN: none, if it would be BROKEN");
        CutDeeper x = Due.of("strength 4;key 0 0 cut 2 0 0;key 0 0 cut 1 2 0;key 0 0 cut 0 0 3;lock;lock asks 2 2 0");
        d.due("as much as it bears", x.together(0, 1), 3);
        d.due("the other way", x.together(1, 0), 3);
        x.ask(2, 3);
        d.due("1 more", x.together(0, 1), 0);
        d.due("broken ones together", x.together(2, 1), 0);
        d.due("one key twice", x.together(2, 2), BAD);
        d.due("a key there is not", x.together(2, 3), BAD);
    }

    private static void togetherOfKindKey() {
        d.promise("35 a KEY of KIND KEY cut as deep as the deeper one of both CUTS");
        CutDeeper x = Due.of("strength 6;key 2 9 cut 2 1 0;key 4 9 cut 1 3 0;key 1 2;key 5 0;key 0 0 cut 0 0 2;"
            + "lock asks 2 3 0;lock ward;lock asks 0 0 1;lock asks 0 0 2");
        d.due("thin ones, not thin now", x.together(0, 1), 1);
        d.due("worn ones, not worn now, and a master that is none", x.together(2, 3), 0);
        d.due("a master with a key", x.together(3, 4), 4 + 8);
        d.due("no locks", Due.of("key 0 0;key 0 0").together(0, 1), 0);
    }

    private static void pairsFewest() {
        d.promise("36 STUCK: fewer than two KEYS");
        CutDeeper x = Due.of("lock");
        d.due("none", x.pair(), STUCK);
        x.key(0, 0);
        d.due("one", x.pair(), STUCK);
        x.key(0, 0);
        d.due("two", x.pair(), 1);
        d.due("STUCK", x.status(15), 2);
    }

    private static void pairsFirstAndLast() {
        d.promise("36 the two KEYS that OPEN most TOGETHER, of several the first");
        CutDeeper x = Due.of(SIX_KEYS + ";lock asks 1 1 0;lock");
        d.due("all alike", x.pair(), 1);
        x.file(5, 0);
        x.file(4, 1);
        d.due("the last two", x.pair(), 45);
        x.file(2, 0);
        d.due("one ahead", x.pair(), 24);
        x.file(0, 1);
        d.due("the first and one behind", x.pair(), 2);
        x.ask(2, 1);
        d.due("those would break", x.pair(), 1);
        CutDeeper y = Due.of("strength 1;key 0 0 cut 2 0 0;key 0 0 cut 2 0 0;lock");
        d.due("two that open nothing", y.pair(), 1);
    }

    private static void unlikeOfHalfCut() {
        d.promise("37 all whose ASKS together are half of n times DEEP (cut)");
        int[][] cases = {{1, 1, 1}, {1, 2, 1}, {1, 3, 1}, {3, 1, 3}, {3, 3, 12}, {5, 1, 10}, {5, 3, 155}, {2, 4, 5},
            {5, 4, 381}};
        for (int[] c : cases) {
            CutDeeper x = new CutDeeper();
            x.ask(0, c[0]);
            x.ask(1, c[1]);
            d.due("unlike of " + c[0] + ", " + c[1], x.unlike(), c[2]);
            Due.read(x, SIX_KEYS + ";" + EIGHT_LOCKS);
            d.due("whatever there is", x.unlike(), c[2]);
        }
    }

    private static void alikeNoneAndSame() {
        d.promise("38 NONE; at each PLACE as much as the other at least");
        CutDeeper x = new CutDeeper();
        d.due("no locks", x.alike(), -1);
        x.lock(false);
        d.due("one lock", x.alike(), -1);
        x.lock(true);
        d.due("the same", x.alike(), 1);
        x.asks(0, 2, 1);
        d.due("the first more", x.alike(), 1);
        x.asks(1, 2, 2);
        d.due("the second more", x.alike(), 10);
        x.asks(0, 0, 1);
        d.due("each more somewhere", x.alike(), -1);
        d.due("NONE isn't refused", x.status(12) + x.status(15), 0);
    }

    private static void alikeFirstAndLast() {
        d.promise("38 the first two (10 times the one and the other)");
        CutDeeper x = Due.of("deep 4;lock asks 0 2 4;lock asks 0 3 3;lock asks 0 4 2;lock asks 1 1 4;lock asks 1 2 3;"
            + "lock asks 1 3 2;lock asks 4 2 0;lock asks 4 3 0");
        d.due("the last two", x.alike(), 76);
        x.asks(7, 2, 2);
        d.due("as much as more of them", x.alike(), 72 + 3);
        x.asks(6, 1, 3);
        x.asks(6, 2, 2);
        d.due("an earlier one", x.alike(), 65);
        x.asks(0, 0, 1);
        d.due("the first", x.alike(), 3);
    }

    private static void overNoneAndAll() {
        d.promise("39 KEYS (bits, but itself) that OPEN all that it OPENS: none, all");
        d.due("alone", Due.of("key 0 0;lock").over(0), 0);
        CutDeeper x = Due.of(SIX_KEYS);
        for (int key = 0; key < 6; key++) {
            d.due("no locks: all others", x.over(key), 63 - (1 << key));
        }
        Due.read(x, "lock asks 0 0 1");
        d.due("it opens nothing: all others", x.over(5), 31);
        x.file(0, 2);
        d.due("it alone opens it", x.over(0), 0);
        d.due("it is over them", x.over(5), 31);
        d.due("no such key", x.over(6), BAD);
    }

    private static void chainOfNoneAndAll() {
        d.promise("40 the most KEYS of which each OPENS all that the next one OPENS and more: none, all");
        d.due("no keys", new CutDeeper().chain(), 0);
        d.due("no keys, locks", Due.of(EIGHT_LOCKS).chain(), 0);
        d.due("one key", Due.of("key 0 0").chain(), 1);
        d.due("all the same", Due.of(SIX_KEYS + ";lock").chain(), 1);
        CutDeeper x = Due.of("places 2;" + SIX_KEYS + ";lock asks 1 0;lock asks 2 0;lock asks 3 0;lock asks 3 1;lock asks 3 2");
        d.due("all open nothing", x.chain(), 1);
        int[][] filings = {{3, 0}, {2, 0}, {3, 2}, {1, 0}, {3, 1}};
        int[] keys = {2, 5, 0, 3, 4};
        for (int i = 0; i < 5; i++) {
            for (int place = 0; place < 2; place++) {
                while (x.keyOf(keys[i], 10 + place) < filings[i][place]) {
                    x.file(keys[i], place);
                }
            }
            d.due("one more", x.chain(), i + 2);
        }
        for (int strength = 4; strength >= 1; strength--) {
            x.ask(2, strength);
            d.due("the deeper ones are broken", x.chain(), strength + 1);
        }
        CutDeeper y = Due.of("key 0 0;key 0 0 cut 1 0 0;key 0 0 cut 0 1 0;key 0 0 cut 0 0 1;lock asks 1 0 0;lock asks 0 1 0;"
            + "lock asks 0 0 1");
        d.due("those that open others aren't of one chain", y.chain(), 2);
        y.file(3, 1);
        d.due("one over another", y.chain(), 3);
    }

    private static void wardNoneAndAll() {
        d.promise("41 by how many pairs fewer are OPEN: none, all; STUCK: it has one");
        d.due("no keys", Due.of("lock").ward(0), 0);
        CutDeeper x = Due.of("key 0 0;key 1 0;key 2 0;key 4 0;key 0 0;key 0 0;lock;lock asks 3 3 3;lock ward");
        d.due("all", x.ward(0), 6);
        d.due("it isn't open", x.ward(1), 0);
        d.due("it has one", x.ward(2), STUCK);
        d.due("no such lock", x.ward(3), BAD);
        d.due("WARDED ones all the same", Due.of("key 3 0;key 5 0;lock").ward(0), 0);
        CutDeeper y = Due.of("key 5 0;key 5 0;key 0 0 cut 1 0 0;lock asks 1 0 0;lock asks 1 0 0");
        d.due("a key, and masters by it", y.ward(0), 3);
        y.file(1, 0);
        d.due("the one by itself", y.ward(0), 2);
        d.due("one lock alone counts", y.ward(1), 2);
    }

    private static void foundRows() {
        d.promise("42 the first n elements (as many as PLACES); BAD: fewer elements, none of 0 to DEEP");
        for (int places = 1; places <= 5; places++) {
            CutDeeper x = new CutDeeper();
            x.ask(0, places);
            x.key(0, 0);
            x.row(0, 0, places - 1);
            d.due("one too few", x.found(0, 0), BAD);
            x.row(0, 0, places);
            d.due("as many", x.found(0, 0), 1);
            x.set(0, places - 1, 3);
            d.due("DEEP", x.found(0, 0), 1);
            x.set(0, places - 1, 4);
            d.due("deeper", x.found(0, 0), BAD);
            x.set(0, places - 1, -1);
            d.due("below 0", x.found(0, 0), BAD);
            x.row(0, 2, 40);
            x.set(0, places, 99);
            x.set(0, 39, -1);
            d.due("what is behind doesn't count", x.found(0, 0), 1);
        }
        CutDeeper y = Due.of("deep 1;key 0 0;lock asks 1 0 0");
        y.row(0, 4, 3);
        y.set(0, 0, 7);
        d.due("booleans", y.found(0, 1), 1);
        Due.tell(y, 0, 2, 0, 0);
        d.due("deeper than 1", y.found(0, 0), BAD);
    }

    private static void foundBlanks() {
        d.promise("42 whose CUTS are at no PLACE deeper (a BLANK's: just these)");
        CutDeeper x = Due.of("key 0 0 cut 1 1 1;key 4 0 cut 1 1 1;key 4 0;key 3 0");
        long[][] told = {{1, 1, 1}, {1, 1, 2}, {1, 1, 0}, {0, 1, 1}, {0, 0, 0}, {3, 3, 3}};
        int[] want = {1 + 2 + 8, 1 + 8, 8, 8, 4 + 8, 1 + 8};
        for (int i = 0; i < told.length; i++) {
            Due.tell(x, 0, told[i]);
            d.due("found of row " + i, x.found(0, 0), want[i]);
        }
    }

    private static void foundNoneAndAll() {
        d.promise("42 a set of LOCKS: none, all, one there is not");
        d.due("no keys", told(new CutDeeper()).found(0, 0), 0);
        CutDeeper x = told(Due.of(SIX_KEYS + ";" + EIGHT_LOCKS));
        d.due("none", x.found(0, 0), 63);
        d.due("all", x.found(0, 255), 63);
        d.due("the ninth", x.found(0, 256), BAD);
        d.due("all bits", x.found(0, -1), BAD);
        x.asks(7, 0, 1);
        d.due("one doesn't open", x.found(0, 255), 0);
        d.due("the others do", x.found(0, 127), 63);
        d.due("no locks, one told", told(Due.of("key 0 0")).found(0, 1), BAD);
    }

    private static CutDeeper told(CutDeeper x) {
        x.row(0, 1, 3);
        return x;
    }

    private static void foundBroken() {
        d.promise("42 which so FILED OPEN all of these: not if they are BROKEN then");
        CutDeeper x = Due.of("strength 3;key 0 0;key 2 0;key 2 1;key 5 0;key 0 0 cut 1 0 0;lock;lock asks 1 0 0");
        Due.tell(x, 0, 1, 1, 1);
        d.due("just not broken", x.found(0, 3), 1 + 2 + 8 + 16);
        Due.tell(x, 0, 1, 1, 2);
        d.due("broken, all", x.found(0, 2), 0);
        Due.tell(x, 0, 0, 0, 0);
        d.due("a master by another", x.found(0, 3), 8);
        Due.tell(x, 0, 0, 2, 2);
        d.due("not a broken one", x.found(0, 3), 0);
    }

    private static void manyNoneAndAll() {
        d.promise("43 how many rows of CUTS there are in all: none, one, all");
        for (int places = 1; places <= 5; places++) {
            for (int deep = 1; deep <= 4; deep++) {
                CutDeeper x = new CutDeeper();
                x.ask(0, places);
                x.ask(1, deep);
                int all = 1;
                for (int place = 0; place < places; place++) {
                    all *= deep + 1;
                }
                d.due("no locks", x.many(0), all);
                d.due("a lock there is not", x.many(1), BAD);
                x.lock(true);
                d.due("all fit", x.many(1), all);
                d.due("none does not", x.many(0), 0);
                for (int place = 0; place < places; place++) {
                    x.asks(0, place, deep);
                }
                d.due("one fits", x.many(1), 1);
                d.due("all others do not", x.many(0), all - 1);
                d.due("the next lock", x.many(2), BAD);
                d.due("all bits", x.many(-1), BAD);
            }
        }
    }

    private static CutDeeper seeded(String text, int seed) {
        CutDeeper x = Due.of(text);
        x.seed(seed);
        return x;
    }

    private static void usedOrNot() {
        d.promise("44 a DRAW below 4 that is 0 makes it 1 deeper: 1 if it was made deeper, else 0");
        int[] seeds = {1, -1, MAX};
        int[] after = {1103527590, -1103502900, 1043980748};
        for (int i = 0; i < seeds.length; i++) {
            CutDeeper x = seeded("key 0 0;lock", seeds[i]);
            d.due("use", x.use(0, 0), 0);
            d.due("one draw", x.status(9), after[i]);
            d.due("uncut", x.keyOf(0, 2), 0);
        }
        CutDeeper y = Due.of("key 0 0;key 4 0;lock asks 1 0 0;lock ward");
        d.due("it doesn't open it", y.use(0, 0), STUCK);
        d.due("nor that", y.use(1, 1), STUCK);
        d.due("no key", y.use(2, 0), BAD);
        d.due("no lock", y.use(0, 2), BAD);
        d.due("no draws", y.status(9), 1);
    }

    private static void usedAtEachPlace() {
        d.promise("44 at a PLACE by a DRAW below n: upper 16 bits, no sign");
        int[] seeds = {47, 0, 26, 9, 87, 35, 7, 2, 28, 40};
        for (int i = 0; i < seeds.length; i++) {
            CutDeeper x = seeded("places 5;key 0 0;lock", seeds[i]);
            d.due("use", x.use(0, 0), 1);
            int[] want = new int[5];
            want[i % 5] = 1;
            dueCuts(x, 0, want);
            d.due("for nothing", x.status(5), 0);
        }
        int[] seedsOfThree = {9, 21, 0, 14, 28, 2};
        for (int i = 0; i < seedsOfThree.length; i++) {
            CutDeeper x = seeded("key 0 0;lock", seedsOfThree[i]);
            d.due("use", x.use(0, 0), 1);
            int[] want = new int[3];
            want[i % 3] = 1;
            dueCuts(x, 0, want);
        }
        CutDeeper one = seeded("places 1;key 0 0;lock", 0);
        d.due("one place", one.use(0, 0), 1);
        d.due("two draws all the same", one.status(9), -740551042);
    }

    private static void usedWhereItIsDeep() {
        d.promise("44 as FILING (DEEP at most): 0 if it was not made deeper");
        CutDeeper x = seeded("deep 1;key 0 0 cut 0 0 1;lock", 0);
        d.due("use", x.use(0, 0), 0);
        dueCuts(x, 0, 0, 0, 1);
        d.due("two draws", x.status(9), -740551042);
        CutDeeper y = seeded("deep 2;key 0 0 cut 0 0 1;lock", 0);
        d.due("use", y.use(0, 0), 1);
        dueCuts(y, 0, 0, 0, 2);
    }

    private static void usedBlanks() {
        d.promise("44 as FILING, a BLANK too, for nothing");
        for (int kind = 0; kind <= 5; kind++) {
            CutDeeper x = seeded("key " + kind + " 0;lock", 2);
            d.due("kind " + kind, x.use(0, 0), 1);
            dueCuts(x, 0, 0, 0, 1);
            d.due("no coins", x.status(5), 0);
        }
    }

    private static void usedUntilBroken() {
        d.promise("44 STUCK: it doesn't OPEN it, for it broke by its use");
        CutDeeper x = seeded("strength 1;key 0 0 cut 1 0 0;key 4 1;lock", 0);
        d.due("use", x.use(0, 0), 1);
        d.due("broken", x.keyOf(0, 3), 1);
        d.due("stuck", x.use(0, 0), STUCK);
        x.seed(0);
        d.due("a blank that bears nothing", x.use(1, 0), 1);
        d.due("both are broken", x.status(6), 3);
        d.due("no draw for what is stuck", x.status(9), -740551042);
    }

    private static void seedsThatWrap() {
        d.promise("44 SEED times 1103515245, and 12345 (an int, wrapping)");
        int[] seeds = {0, MIN, MAX, -1};
        int[] results = {1, 1, 0, 0};
        int[] after = {-740551042, 1406932606, 1043980748, -1103502900};
        for (int i = 0; i < seeds.length; i++) {
            CutDeeper x = seeded("key 0 0;lock", seeds[i]);
            d.due("use of " + seeds[i], x.use(0, 0), results[i]);
            d.due("seed after " + seeds[i], x.status(9), after[i]);
        }
        CutDeeper y = seeded("key 0 0;lock", MIN);
        y.use(0, 0);
        dueCuts(y, 0, 1, 0, 0);
    }

    private static void daysOneAndForty() {
        d.promise("45 n (1 to 40) USES by draws");
        String house = "key 0 0 cut 1 0 0;key 0 0;lock;lock asks 1 0 0;lock asks 2 0 0";
        int[] uses = {0, 1, 0, 1, 1, 0, 1, 0, 1, 1, 0, 1};
        int[] after = {-740551042, 662824084, 1495354192, 679304702, -1459938637, -1593238901, -1443458019, 642666333,
            -1426977401, 728746556, 1849040536, 745227174};
        for (int seed = 0; seed < uses.length; seed++) {
            CutDeeper x = seeded(house, seed);
            d.due("a day from " + seed, x.days(1), uses[seed]);
            d.due("seed", x.status(9), after[seed]);
        }
        CutDeeper x = seeded("key 0 0;key 4 0;lock", 1);
        d.due("forty days", x.days(40), 40);
        dueCuts(x, 0, 2, 1, 1);
        dueCuts(x, 1, 0, 0, 2);
        d.due("seed", x.status(9), -29995381);
        CutDeeper y = seeded("strength 2;key 0 0 cut 1 0 0;key 2 1;key 3 0;lock asks 1 0 0;lock;lock ward", -7);
        d.due("until they break", y.days(40), 17);
        dueCuts(y, 0, 2, 1, 0);
        dueCuts(y, 1, 1, 0, 1);
        dueCuts(y, 2, 1, 0, 2);
        d.due("seed", y.status(9), -1452980783);
        CutDeeper z = seeded("places 1;deep 1;strength 1;key 0 0;lock", 5);
        d.due("used, deeper or not", z.days(40), 40);
        d.due("DEEP at most", z.keyOf(0, 10), 1);
        d.due("seed", z.status(9), 1036413927);
        d.due("no coins", z.status(5), 0);
        for (int n : new int[] {0, 41, -1, MIN, MAX}) {
            d.due("days(" + n + ")", z.days(n), BAD);
        }
    }

    private static void daysWithoutKeysOrLocks() {
        d.promise("45 STUCK: no KEYS, no LOCKS");
        for (String text : new String[] {"key 0 0", "lock", "strength 1"}) {
            CutDeeper x = Due.of(text);
            d.due("days(1)", x.days(1), STUCK);
            d.due("days(40)", x.days(40), STUCK);
            d.due("BAD goes first", x.days(41), BAD);
            d.due("no draws", x.status(9), 1);
        }
        CutDeeper y = Due.of("key 0 0;lock asks 3 3 3");
        d.due("none is used", y.days(40), 0);
        d.due("not refused", y.status(15), 0);
    }

    private static void renewedOnceBroken() {
        d.promise("46 STUCK: it isn't BROKEN");
        for (int kind = 0; kind <= 5; kind++) {
            CutDeeper x = Due.of("strength 3;key " + kind + " 0 cut 1 1 1");
            d.due("just not broken", x.renew(0), STUCK);
            x.ask(2, 2);
            d.due("just broken", x.renew(0), kind);
            d.due("not any more", x.renew(0), STUCK);
            d.due("no such key", x.renew(1), BAD);
        }
    }

    private static void renewedWithoutCuts() {
        d.promise("46 of KIND KEY then with the same a and MAY, without CUTS (SHELVES that hold it hold it still)");
        CutDeeper x = Due.of("strength 1;key 4 9 cut 3 3 3;key 5 0;lock;lock ward;may 0 1");
        x.show(7, 0);
        d.due("a BLANK", x.renew(0), 4);
        int[] want = {0, 9, 0, 0, 2};
        for (int what = 0; what < 5; what++) {
            d.due("keyOf(0, " + what + ")", x.keyOf(0, what), want[what]);
        }
        dueCuts(x, 0, 0, 0, 0);
        d.due("holds", x.holds(7), 10);
        d.due("it may be filed now", x.file(0, 0), 1);
        d.due("no coins for it", x.status(5), 1);
        x.asks(0, 0, 1);
        d.due("a master by it", x.opens(1, 0, 1), 1);
        CutDeeper y = Due.of("strength 1;key 1 1 cut 0 2 0;lock asks 0 1 0");
        y.renew(0);
        d.due("worn no more", y.keyOf(0, 21), 0);
        d.due("nor open", y.opened(0), 0);
    }

    private static void mendsAll() {
        d.promise("47 all MENDED that can be is FILED in truth: the coins");
        d.due("no keys", new CutDeeper().mend(), 0);
        CutDeeper x = Due.of("strength 20;key 0 0;key 4 0;key 0 0;key 3 0 cut 1 0 0;lock asks 1 0 0;may 0 0;may 1 0");
        x.seed(6);
        x.file(2, 2);
        d.due("those that can", x.mend(), 1);
        dueCuts(x, 0, 1, 0, 0);
        dueCuts(x, 1, 0, 0, 0);
        dueCuts(x, 2, 0, 0, 1);
        dueCuts(x, 3, 1, 0, 0);
        d.due("coins", x.status(5), 2);
        d.due("no draws", x.status(9), 6);
        d.due("can't", x.mended(1), 2 + 8);
        d.due("nothing more", x.mend(), 0);
        d.due("coins", x.status(5), 2);
        CutDeeper y = Due.of("places 5;deep 4;strength 20;" + SIX_KEYS + ";lock asks 4 4 4 4 4");
        for (int key = 0; key < 6; key++) {
            y.may(key, 0, true);
        }
        d.due("the most", y.mend(), 300);
        d.due("coins", y.status(5), 300);
        d.due("all is right", y.wrong(), -1);
    }

    private static void seedsOfAllInts() {
        d.promise("48 SEED becomes v: the one ahead");
        CutDeeper x = new CutDeeper();
        int before = 1;
        for (int v : new int[] {0, -1, MAX, MIN, 1, 1}) {
            d.due("seed(" + v + ")", x.seed(v), before);
            d.due("it is", x.status(9), v);
            before = v;
        }
        for (int what = 12; what <= 16; what++) {
            d.due("nothing is refused", x.status(what), 0);
        }
    }
}
