/** Promises 9 to 26 and what sections 1 and 2 say of them: the sentences that name an edge, each by a test of its own. */
public final class HouseEdgesTest {
    private static final Due d = new Due();
    private static final int BAD = -2, STUCK = -5, FULL = -6;
    private static final int MIN = Integer.MIN_VALUE, MAX = Integer.MAX_VALUE;

    public static void main(String[] args) {
        placesDeepStrength();
        stuckOnceThereIsOne();
        kindsAndA();
        sixKeys();
        eightLocks();
        asksUpToDeep();
        lastPlaceLastLock();
        mayAsItWas();
        filingCosts();
        filingEnds();
        filingWhatIsBroken();
        lettersAndSize();
        wipedTapes();
        tapesThatAreEmpty();
        tapesThatEndTooEarly();
        bytesThatBeginNone();
        tokensAsLongAsCanBe();
        numbersOfTwoDigits();
        numbersThatMayNotBe();
        placesOnlyIfThereAreNone();
        noRoomForKeys();
        noRoomForLocks();
        numbersForEachPlace();
        partsInTheirOrder();
        mayOfWhatIsThere();
        allOrNothing();
        fullTapes();
        tapesThatWereLonger();
        cutsOfKeys();
        depthsOfWorn();
        goneAndBroken();
        thinOnes();
        lockOfEdges();
        fitsAtLeast();
        fitsWithoutLocksAndPlaces();
        wardsAndKinds();
        mastersBesides();
        bitsOfAll();
        wrongFirstAndLast();
        wrongsNoneAndAll();
        judged();
        listed();
        d.end();
    }

    private static void placesDeepStrength() {
        d.promise("9 PLACES 1 to 5, DEEP 1 to 4, STRENGTH 1 to 20");
        int[] most = {5, 4, 20};
        int[] first = {3, 3, 12};
        for (int what = 0; what < 3; what++) {
            CutDeeper x = new CutDeeper();
            int before = first[what];
            for (int v = 1; v <= most[what]; v++) {
                d.due("ask(" + what + ", " + v + ")", x.ask(what, v), before);
                d.due("it is", x.status(2 + what), v);
                before = v;
            }
            for (int v : new int[] {0, most[what] + 1, -1, MIN, MAX}) {
                d.due("ask(" + what + ", " + v + ")", x.ask(what, v), BAD);
                d.due("as it was", x.status(2 + what), before);
            }
        }
        CutDeeper y = new CutDeeper();
        d.due("what -1", y.ask(-1, 1), BAD);
        d.due("what 3", y.ask(3, 1), BAD);
    }

    private static void stuckOnceThereIsOne() {
        d.promise("9 STUCK (0, 1): there are KEYS or LOCKS");
        for (String text : new String[] {"key 0 0", "lock", "key 0 0;lock"}) {
            CutDeeper x = Due.of(text);
            d.due("PLACES as they are", x.ask(0, 3), STUCK);
            d.due("PLACES", x.ask(0, 1), STUCK);
            d.due("DEEP", x.ask(1, 4), STUCK);
            d.due("STRENGTH", x.ask(2, 1), 12);
            d.due("BAD goes first", x.ask(0, 0), BAD);
            d.due("BAD goes first", x.ask(1, 5), BAD);
            d.due("as they were", 10 * x.status(2) + x.status(3), 33);
        }
    }

    private static void kindsAndA() {
        d.promise("10 KINDS 0 to 5, a 0 to 9");
        for (int kind = 0; kind <= 5; kind++) {
            CutDeeper x = new CutDeeper();
            d.due("a 0", x.key(kind, 0), 0);
            d.due("a 9", x.key(kind, 9), 1);
            d.due("a -1", x.key(kind, -1), BAD);
            d.due("a 10", x.key(kind, 10), BAD);
            d.due("kind", x.keyOf(1, 0), kind);
            d.due("a", x.keyOf(1, 1), 9);
        }
        CutDeeper y = new CutDeeper();
        for (int v : new int[] {-1, 6, MIN, MAX}) {
            d.due("kind " + v, y.key(v, 0), BAD);
        }
        d.due("none came of it", y.status(0), 0);
    }

    private static void sixKeys() {
        d.promise("10 KEYS have numbers, 0 on, 6 at most; FULL");
        CutDeeper x = new CutDeeper();
        for (int key = 0; key < 6; key++) {
            d.due("the next isn't there", x.opened(key), BAD);
            d.due("key", x.key(0, key), key);
        }
        d.due("full", x.key(0, 0), FULL);
        d.due("full again", x.key(5, 9), FULL);
        d.due("BAD goes first", x.key(6, 0), BAD);
        d.due("BAD goes first", x.key(0, 10), BAD);
        d.due("the last", x.keyOf(5, 1), 5);
        d.due("none behind it", x.keyOf(6, 1), BAD);
        d.due("six", x.status(0), 6);
    }

    private static void eightLocks() {
        d.promise("11 LOCKS have numbers, 0 on, 8 at most; FULL");
        CutDeeper x = new CutDeeper();
        for (int lock = 0; lock < 8; lock++) {
            d.due("the next isn't there", x.who(lock), BAD);
            d.due("lock", x.lock(lock == 7), lock);
            d.due("ward", x.lockOf(lock, 0), lock == 7 ? 1 : 0);
        }
        d.due("full", x.lock(false), FULL);
        d.due("full, with a ward", x.lock(true), FULL);
        d.due("none behind it", x.lockOf(8, 0), BAD);
        d.due("eight", x.status(1), 8);
        d.due("wards", x.status(7), 128);
    }

    private static void asksUpToDeep() {
        d.promise("12 what it ASKS (0 to DEEP; 0 at first)");
        for (int deep = 1; deep <= 4; deep++) {
            CutDeeper x = new CutDeeper();
            x.ask(1, deep);
            x.lock(false);
            int before = 0;
            for (int v = 0; v <= deep; v++) {
                d.due("asks " + v + " of " + deep, x.asks(0, 1, v), before);
                d.due("it does", x.lockOf(0, 11), v);
                before = v;
            }
            d.due("deeper than can be", x.asks(0, 1, deep + 1), BAD);
            d.due("below 0", x.asks(0, 1, -1), BAD);
            d.due("as it was", x.lockOf(0, 1), deep);
        }
    }

    private static void lastPlaceLastLock() {
        d.promise("12 BAD: a LOCK, a PLACE there is not");
        for (int places = 1; places <= 5; places++) {
            CutDeeper x = new CutDeeper();
            x.ask(0, places);
            d.due("no lock", x.asks(0, 0, 0), BAD);
            x.lock(false);
            d.due("the last place", x.asks(0, places - 1, 3), 0);
            d.due("the place behind", x.asks(0, places, 0), BAD);
            d.due("the place ahead", x.asks(0, -1, 0), BAD);
            d.due("the lock behind", x.asks(1, 0, 0), BAD);
            d.due("together", x.lockOf(0, 1), 3);
        }
    }

    private static void mayAsItWas() {
        d.promise("13 1; 0 if it was so");
        CutDeeper x = Due.of("key 0 0;key 0 0;lock;lock;lock;lock;lock;lock;lock;lock");
        d.due("may not at first", x.may(1, 7, false), 0);
        d.due("may", x.may(1, 7, true), 1);
        d.due("may already", x.may(1, 7, true), 0);
        d.due("the highest bit", x.keyOf(1, 4), 128);
        d.due("may", x.may(1, 0, true), 1);
        d.due("both", x.keyOf(1, 4), 129);
        d.due("may not", x.may(1, 7, false), 1);
        d.due("may not already", x.may(1, 7, false), 0);
        d.due("the lowest is left", x.keyOf(1, 4), 1);
        d.due("the other key as it was", x.keyOf(0, 4), 0);
    }

    private static void filingCosts() {
        d.promise("14 FILING: it costs as many coins as the CUT is then");
        for (int deep = 1; deep <= 4; deep++) {
            CutDeeper x = new CutDeeper();
            x.ask(0, 1);
            x.ask(1, deep);
            x.key(5, 0);
            for (int cut = 1; cut <= deep; cut++) {
                d.due("file", x.file(0, 0), cut);
                d.due("cut", x.keyOf(0, 10), cut);
                d.due("coins", x.status(5), cut * (cut + 1) / 2);
            }
            d.due("DEEP already", x.file(0, 0), STUCK);
            d.due("coins as they were", x.status(5), deep * (deep + 1) / 2);
        }
    }

    private static void filingEnds() {
        d.promise("14 STUCK: a BLANK, DEEP already");
        CutDeeper x = Due.of("deep 1;key 4 0;key 1 0;key 2 9;key 3 0");
        for (int place = 0; place < 3; place++) {
            d.due("a BLANK", x.file(0, place), STUCK);
            d.due("WORN where it is deep, its CUT is not", x.file(1, place), 1);
            d.due("DEEP already", x.file(1, place), STUCK);
        }
        d.due("a BLANK at no PLACE", x.file(0, 3), BAD);
        d.due("STUCK", x.status(15), 6);
        d.due("coins", x.status(5), 3);
    }

    private static void filingWhatIsBroken() {
        d.promise("14 FILING, also of what is BROKEN");
        CutDeeper x = Due.of("strength 1;key 0 0 cut 1 1 0");
        d.due("broken", x.keyOf(0, 3), 1);
        d.due("file", x.file(0, 0), 2);
        d.due("gone", x.keyOf(0, 2), 3);
    }

    private static void lettersAndSize() {
        d.promise("15 one byte (0 to 255), 250 at most; BAD; FULL");
        CutDeeper x = new CutDeeper();
        for (int v : new int[] {-1, 256, MIN, MAX}) {
            d.due("feed(" + v + ")", x.feed(v), BAD);
        }
        d.due("feed(0)", x.feed(0), 1);
        for (int size = 2; size < 250; size++) {
            x.feed(255);
        }
        d.due("the last", x.feed(255), 250);
        d.due("full", x.feed(0), FULL);
        d.due("BAD goes first", x.feed(-1), BAD);
        d.due("size", x.status(8), 250);
        d.due("wipe", x.wipe(), 250);
        d.due("room again", x.feed(7), 1);
    }

    private static void wipedTapes() {
        d.promise("16 THE TAPE is empty: its size ahead");
        CutDeeper x = new CutDeeper();
        d.due("empty already", x.wipe(), 0);
        x.feed('l');
        d.due("one", x.wipe(), 1);
        d.due("none", x.wipe(), 0);
        d.due("nothing to read", x.house(), -20);
    }

    /** Reads a text into a new object: the fault, or how many statements. */
    private static void reads(String text, int want) {
        CutDeeper x = new CutDeeper();
        d.due("'" + text + "'", Due.read(x, text), want);
        d.due("'" + text + "' refused", x.status(12), want < 0 ? 1 : 0);
        d.due("'" + text + "' the tape is empty", x.status(8), 0);
    }

    private static void faults(String text, int fault) {
        reads(text, -20 - fault);
    }

    private static void tapesThatAreEmpty() {
        d.promise("17 STATEMENTS, one or more: THE TAPE's size, if it ends too early");
        faults("", 0);
        faults(" ", 1);
        faults("     ", 5);
        CutDeeper x = new CutDeeper();
        for (int size = 1; size <= 250; size++) {
            x.feed(32);
        }
        d.due("250 blanks", x.house(), -270);
    }

    private static void tapesThatEndTooEarly() {
        d.promise("17 THE TAPE's size, if it ends too early");
        String[] texts = {"lock;", "lock; ", "places", "deep ", "strength", "key", "key 0", "key 0 0 cut", "key 0 0 cut 1",
            "key 0 0 cut 1 2 ", "lock asks", "lock asks 1 2", "key 0 0;lock;may", "key 0 0;lock;may 0", "lock;lock;  "};
        for (String text : texts) {
            faults(text, text.length());
        }
    }

    private static void bytesThatBeginNone() {
        d.promise("17 a byte that begins none");
        faults("A", 0);
        faults("\u0000", 0);
        faults("\u00ff", 0);
        faults("\t", 0);
        faults("\n", 0);
        faults("-1", 0);
        faults("lock:", 4);
        faults("lock`", 4);
        faults("lock{", 4);
        faults("lock @", 5);
        faults("places /", 7);
        faults("places :", 7);
        faults("places 1<", 8);
        faults("lock\u00e1", 4);
        faults("lock;\u001f", 5);
        faults("lock;!", 5);
    }

    private static void tokensAsLongAsCanBe() {
        d.promise("17 TOKENS, each as long as can be; blanks may stand anywhere between");
        reads("places2", 1);
        reads("  places   2  ;  lock  ", 2);
        reads("key0 0cut1 2 3", 1);
        reads("lock asks0 0 0ward", 1);
        reads("key 0 0;lock;may0 0;may 0 0", 4);
        faults("pla ces 2", 0);
        faults("places2lock", 7);
        faults("lockward", 0);
        faults("lock asksward", 5);
        faults("key 00", 6);
        faults("key 0 0 cut123", 11);
        for (String word : new String[] {"dock 0", "mock", "qlaces 2", "jeep 2", "ttrength 2", "pey 0 0", "nay 0 0"}) {
            faults(word, 0);
        }
        for (String word : new String[] {"loc", "place 2", "dee 2", "strengt 2", "ke 0 0", "ma 0 0", "l", "lokc"}) {
            faults(word, 0);
        }
        faults("key 0 0 but 0 0 0", 8);
        faults("lock bsks 0 0 0", 5);
        faults("lock hard", 5);
        faults("locka", 0);
        faults("alock", 0);
        faults("lockz", 0);
        faults("lock wardz", 5);
        faults("lock asks 0 0 0 wardw", 16);
        faults("key 0 0 cu 0 0 0", 8);
        faults("key 0 0 cuts 0 0 0", 8);
    }

    private static void numbersOfTwoDigits() {
        d.promise("17 a NUMBER that has more than 2 digits");
        reads("places 01", 1);
        reads("places 05;deep 04;strength 20;key 05 09 cut 04 00 01 02 03;lock asks 04 00 00 00 00;may 00 00", 6);
        faults("places 001", 7);
        faults("deep 003", 5);
        faults("strength 001", 9);
        faults("strength 100", 9);
        faults("key 000 0", 4);
        faults("key 0 000", 6);
        faults("key 0 0 cut 0 000 0", 14);
        faults("lock asks 000 0 0", 10);
        faults("key 0 0;lock;may 000 0", 17);
        faults("key 0 0;lock;may 0 000", 19);
        faults("strength 4294967297", 9);
        faults("strength 99999999999999999999", 9);
    }

    private static void numbersThatMayNotBe() {
        d.promise("17 a NUMBER that may not be");
        for (int v = 0; v <= 22; v++) {
            reads("places " + v, v >= 1 && v <= 5 ? 1 : -27);
            reads("deep " + v, v >= 1 && v <= 4 ? 1 : -25);
            reads("strength " + v, v >= 1 && v <= 20 ? 1 : -29);
            reads("key " + v + " 0", v <= 5 ? 1 : -24);
            reads("key 0 " + v, v <= 9 ? 1 : -26);
            reads("key 0 0 cut 0 0 " + v, v <= 3 ? 1 : -36);
            reads("lock asks " + v + " 0 0", v <= 3 ? 1 : -30);
            reads("deep 1;key 0 0 cut " + v + " 0 0", v <= 1 ? 2 : -39);
            reads("deep 4;lock asks 0 0 " + v, v <= 4 ? 2 : -41);
        }
        faults("strength 99", 9);
    }

    private static void placesOnlyIfThereAreNone() {
        d.promise("17 places, deep, if they can't be: its word");
        reads("places 1;places 5;deep 1;deep 4;strength 1;places 2", 6);
        faults("key 0 0;places 3", 8);
        faults("lock;places 3", 5);
        faults("key 0 0; deep 3", 9);
        faults("lock; deep 3", 6);
        faults("lock;places 9", 5);
        faults("lock;deep", 5);
        faults("lock;places;", 5);
        for (String text : new String[] {"key 0 0", "lock"}) {
            CutDeeper x = Due.of(text);
            d.due("there is one already", Due.read(x, " places 3"), -21);
            d.due("there is one already", Due.read(x, "strength 3;deep 3"), -31);
            d.due("strength may be", Due.read(x, "strength 3"), 1);
        }
    }

    private static void noRoomForKeys() {
        d.promise("17 what there is no room for: its word (KEYS)");
        String six = "key 0 0;key 0 1;key 0 2;key 0 3;key 0 4;key 0 5";
        reads(six, 6);
        faults(six + ";key 0 6", 48);
        faults(six + ";key", 48);
        faults(six + ";  key 9 9", 50);
        CutDeeper x = Due.of(six);
        d.due("full already", Due.read(x, "lock;key 0 0"), -25);
        d.due("no lock came", x.status(1), 0);
        CutDeeper y = Due.of("key 0 0;key 0 1;key 0 2;key 0 3;key 0 4");
        d.due("the last", Due.read(y, "key 0 5"), 1);
        d.due("one too many", Due.read(y, "key 0 6"), -20);
    }

    private static void noRoomForLocks() {
        d.promise("17 what there is no room for: its word (LOCKS)");
        String eight = "lock;lock;lock;lock;lock;lock;lock;lock";
        reads(eight, 8);
        faults(eight + ";lock", 40);
        faults(eight + ";lock asks 9", 40);
        CutDeeper x = Due.of(eight);
        d.due("full already", Due.read(x, "strength 1;lock ward"), -31);
        d.due("strength as it was", x.status(4), 12);
        CutDeeper y = Due.of("lock;lock;lock;lock;lock;lock;lock");
        d.due("the last", Due.read(y, "lock ward"), 1);
        d.due("one too many", Due.read(y, "lock"), -20);
        d.due("its ward", y.status(7), 128);
    }

    private static void numbersForEachPlace() {
        d.promise("17 C for each PLACE (n NUMBERS behind cut)");
        String[] rows = {" 1", " 1 2", " 1 2 3", " 1 2 3 0", " 1 2 3 0 1"};
        for (int places = 1; places <= 5; places++) {
            String key = "places " + places + ";key 0 0 cut";
            String lock = "places " + places + ";lock asks";
            for (int count = 1; count <= 5; count++) {
                int behind = 2 * places + 1;
                boolean tooFew = count < places;
                String row = rows[count - 1];
                int keyFault = tooFew ? key.length() + row.length() : key.length() + behind;
                int lockFault = tooFew ? lock.length() + row.length() : lock.length() + behind;
                reads(key + row, count == places ? 2 : -20 - keyFault);
                reads(lock + row, count == places ? 2 : -20 - lockFault);
            }
            faults(key + ";lock", key.length());
            faults(lock + " ward", lock.length() + 1);
        }
    }

    private static void partsInTheirOrder() {
        d.promise("17 perhaps asks, perhaps ward; perhaps cut; with ; between");
        reads("lock ward", 1);
        reads("lock asks 1 1 1 ward", 1);
        reads("lock asks 1 1 1", 1);
        faults("lock ward asks 1 1 1", 10);
        faults("lock ward ward", 10);
        faults("lock asks 1 1 1 asks 1 1 1", 16);
        faults("lock cut 1 1 1", 5);
        faults("key 0 0 ward", 8);
        faults("key 0 0 asks 1 1 1", 8);
        faults("key 0 0 cut 1 1 1 cut 1 1 1", 18);
        faults("lock lock", 5);
        faults("key 0 0 key 0 0", 8);
        faults("lock;;lock", 5);
        faults(";lock", 0);
        faults("lock;1", 5);
        faults("ward", 0);
        faults("cut 1 1 1", 0);
        faults("asks 1 1 1", 0);
    }

    private static void mayOfWhatIsThere() {
        d.promise("17 KEY G may LOCK L");
        faults("may 0 0", 4);
        faults("key 0 0;may 0 0", 14);
        faults("lock;may 0 0", 9);
        faults("key 0 0;lock;may 1 0", 17);
        faults("key 0 0;lock;may 0 1", 19);
        faults("may 0 0;key 0 0;lock", 4);
        CutDeeper x = Due.of("key 0 0;key 0 0;lock;lock;lock;lock;lock;lock;lock;lock;may 1 7;may 1 7;may 1 0");
        d.due("may", x.keyOf(1, 4), 129);
        d.due("the other", x.keyOf(0, 4), 0);
        d.due("what was there already", Due.read(x, "may 0 7"), 1);
        d.due("may", x.keyOf(0, 4), 128);
        d.due("the key behind", Due.read(x, "may 2 0"), -24);
        d.due("the lock behind", Due.read(x, "may 1 8"), -26);
    }

    private static void allOrNothing() {
        d.promise("17 all comes to what there is, or nothing");
        CutDeeper x = Due.of("strength 9;key 0 0 cut 1 0 0;lock asks 1 0 0");
        x.file(0, 0);
        x.seed(4);
        d.due("a fault at the end", Due.read(x, "strength 1;key 3 1 cut 3 3 3;lock asks 3 3 3 ward;may 0 0;may 1 1;."), -20 - 66);
        int[] want = {1, 1, 3, 3, 9, 2, 0, 0, 0, 4};
        for (int what = 0; what < want.length; what++) {
            d.due("status(" + what + ")", x.status(what), want[what]);
        }
        d.due("may", x.keyOf(0, 4), 0);
        d.due("no key behind", x.keyOf(1, 0), BAD);
        d.due("no lock behind", x.lockOf(1, 0), BAD);
        d.due("the next key is as new", x.key(0, 0), 1);
        d.due("uncut", x.keyOf(1, 2), 0);
        d.due("may nothing", x.keyOf(1, 4), 0);
        d.due("the next lock is as new", x.lock(false), 1);
        d.due("asks nothing", x.lockOf(1, 1), 0);
        d.due("all comes", Due.read(x, "strength 2;key 3 1 cut 1 1 0;may 2 1"), 3);
        d.due("three keys", x.status(0), 3);
        d.due("seed and coins as they were", 10 * x.status(9) + x.status(5), 42);
        CutDeeper y = new CutDeeper();
        d.due("places, then a fault", Due.read(y, "places 5;deep 4;lock;x"), -41);
        d.due("places as they were", y.status(2), 3);
        d.due("deep as it was", y.status(3), 3);
    }

    private static void fullTapes() {
        d.promise("17 a HOUSE of 250 bytes");
        StringBuilder text = new StringBuilder("key 0 0;lock");
        while (text.length() + 8 <= 250) {
            text.append(";may 0 0");
        }
        int statements = 2 + (text.length() - 12) / 8;
        while (text.length() < 250) {
            text.append(' ');
        }
        reads(text.toString(), statements);
        text.setCharAt(249, ';');
        faults(text.toString(), 250);
        text.setCharAt(249, 'x');
        faults(text.toString(), 249);
        CutDeeper x = new CutDeeper();
        Due.read(x, text.toString());
        d.due("a shorter one reads nothing of it", Due.read(x, "key 0 0;lock"), 2);
    }

    private static void tapesThatWereLonger() {
        d.promise("17 THE TAPE is empty then, either way: nothing of what was there is read");
        for (char letter : new char[] {' ', '9', 'a', ';', '!'}) {
            CutDeeper x = new CutDeeper();
            for (int size = 1; size <= 100; size++) {
                x.feed(letter);
            }
            d.due("a fault", x.house() < -19 ? 1 : 0, 1);
            d.due("it ends too early", Due.read(x, "lock;"), -25);
            d.due("a number at the end", Due.read(x, "strength 1"), 1);
            d.due("it is", x.status(4), 1);
            d.due("a word at the end", Due.read(x, "lock"), 1);
            d.due("too few at the end", Due.read(x, "lock asks 1 1"), -33);
            d.due("nothing", Due.read(x, ""), -20);
        }
    }

    private static void cutsOfKeys() {
        d.promise("18 10 and a PLACE, 20 and a PLACE");
        for (int places = 1; places <= 5; places++) {
            CutDeeper x = new CutDeeper();
            x.ask(0, places);
            x.key(1, places - 1);
            for (int place = 0; place < places; place++) {
                d.due("cut", x.keyOf(0, 10 + place), 0);
                d.due("depth", x.keyOf(0, 20 + place), place == places - 1 ? 1 : 0);
            }
            d.due("no such cut", x.keyOf(0, 10 + places), BAD);
            d.due("no such depth", x.keyOf(0, 20 + places), BAD);
            d.due("9", x.keyOf(0, 9), BAD);
            d.due("19", x.keyOf(0, 19), BAD);
            d.due("5", x.keyOf(0, 5), BAD);
            d.due("-1", x.keyOf(0, -1), BAD);
        }
    }

    private static void depthsOfWorn() {
        d.promise("18 DEPTH: 1 more (DEEP at most) at PLACE a (modulo n)");
        for (int deep = 1; deep <= 4; deep++) {
            CutDeeper x = new CutDeeper();
            x.ask(1, deep);
            x.key(1, 8);
            x.key(0, 8);
            for (int cut = 0; cut <= deep; cut++) {
                d.due("worn", x.keyOf(0, 22), Math.min(deep, cut + 1));
                d.due("elsewhere", x.keyOf(0, 21), cut);
                d.due("not worn", x.keyOf(1, 22), cut);
                for (int key = 0; key < 2; key++) {
                    x.file(key, 2);
                    x.file(key, 1);
                }
            }
        }
    }

    private static void goneAndBroken() {
        d.promise("18 BROKEN: GONE is above STRENGTH");
        for (int kind : new int[] {0, 1, 3, 5}) {
            CutDeeper x = new CutDeeper();
            x.ask(2, 4);
            x.key(kind, 9);
            int[] places = {0, 0, 1, 2, 2, 2};
            for (int gone = 1; gone <= 6; gone++) {
                x.file(0, places[gone - 1]);
                d.due("gone", x.keyOf(0, 2), gone);
                d.due("kind " + kind + " with " + gone, x.keyOf(0, 3), gone > 4 ? 1 : 0);
            }
            x.ask(2, 6);
            d.due("it bears more now", x.keyOf(0, 3), 0);
            x.ask(2, 5);
            d.due("and less", x.keyOf(0, 3), 1);
        }
        CutDeeper y = Due.of("places 5;deep 4;strength 20;key 0 0 cut 4 4 4 4 4");
        d.due("all is gone", y.keyOf(0, 2), 20);
        d.due("and not broken", y.keyOf(0, 3), 0);
        y.ask(2, 19);
        d.due("now it is", y.keyOf(0, 3), 1);
    }

    private static void thinOnes() {
        d.promise("18 a THIN one (and a BLANK): above STRENGTH less a (0 at least)");
        for (int kind : new int[] {2, 4}) {
            CutDeeper x = Due.of("strength 5;key " + kind + " 3 cut 1 1 0;key " + kind + " 3 cut 1 1 1;key " + kind
                + " 5;key " + kind + " 5 cut 0 0 1;key " + kind + " 9;key " + kind + " 9 cut 0 1 0");
            int[] broken = {0, 1, 0, 1, 0, 1};
            for (int key = 0; key < 6; key++) {
                d.due("kind " + kind + ", key " + key, x.keyOf(key, 3), broken[key]);
            }
            d.due("bits", x.status(6), 2 + 8 + 32);
        }
    }

    private static void lockOfEdges() {
        d.promise("19 together: none, all; 10 and a PLACE");
        CutDeeper x = Due.of("places 5;deep 4;lock;lock asks 4 4 4 4 4 ward");
        d.due("none", x.lockOf(0, 1), 0);
        d.due("all", x.lockOf(1, 1), 20);
        d.due("ward", x.lockOf(1, 0), 1);
        d.due("the last place", x.lockOf(1, 14), 4);
        for (int what : new int[] {-1, 2, 9, 15, 20, 24}) {
            d.due("lockOf(0, " + what + ")", x.lockOf(0, what), BAD);
        }
    }

    private static void fitsAtLeast() {
        d.promise("20 it FITS: at each PLACE its DEPTH is what the LOCK ASKS, at least");
        for (int cut = 0; cut <= 3; cut++) {
            for (int asks = 0; asks <= 3; asks++) {
                CutDeeper x = Due.of("key 0 0 cut 3 " + cut + " 3;key 1 1 cut 3 " + cut + " 3;lock asks 0 " + asks + " 3");
                d.due("fits", x.opens(0, 0, 0), cut >= asks ? 1 : 0);
                d.due("opens", x.opens(0, 0, 1), cut >= asks ? 1 : 0);
                d.due("worn fits", x.opens(1, 0, 0), cut + 1 >= asks ? 1 : 0);
            }
        }
    }

    private static void fitsWithoutLocksAndPlaces() {
        d.promise("20 at each PLACE, the first, the last, the only one");
        for (int places = 1; places <= 5; places++) {
            for (int lacking = 0; lacking < places; lacking++) {
                CutDeeper x = new CutDeeper();
                x.ask(0, places);
                x.key(0, 0);
                x.lock(false);
                for (int place = 0; place < places; place++) {
                    x.asks(0, place, 1);
                    if (place != lacking) {
                        x.file(0, place);
                    }
                }
                d.due("it lacks one", x.opens(0, 0, 0), 0);
                x.file(0, lacking);
                d.due("it lacks none", x.opens(0, 0, 0), 1);
            }
        }
    }

    private static void wardsAndKinds() {
        d.promise("20 OPENS: FITS, isn't BROKEN, and, if the LOCK has a WARD, is WARDED (or MASTER)");
        for (int kind = 0; kind <= 5; kind++) {
            CutDeeper x = Due.of("strength 1;key " + kind + " 0 cut 1 0 0;lock asks 1 0 0;lock asks 1 0 0 ward");
            d.due("no ward", x.opens(0, 0, 1), 1);
            d.due("fits", x.opens(0, 1, 0), 1);
            d.due("a ward", x.opens(0, 1, 1), kind == 3 || kind == 5 ? 1 : 0);
            CutDeeper y = Due.of("strength 1;key " + kind + " 0 cut 1 1 0;lock asks 1 0 0;lock asks 1 0 0 ward");
            d.due("broken ones fit", y.opens(0, 0, 0), 1);
            d.due("broken", y.opened(0), 0);
        }
        CutDeeper z = Due.of("key 0 0;lock");
        for (int what : new int[] {-1, 2}) {
            d.due("what " + what, z.opens(0, 0, what), BAD);
        }
    }

    private static void mastersBesides() {
        d.promise("20 a MASTER OPENS, besides, whatever LOCK some KEY of KIND KEY (that alone) OPENS, if it isn't BROKEN");
        for (int kind = 0; kind <= 5; kind++) {
            CutDeeper x = Due.of("strength 6;key 5 0;key " + kind + " 0 cut 3 3 0;lock asks 3 3 0");
            d.due("through kind " + kind, x.opened(0), kind == 0 ? 1 : 0);
            d.due("it doesn't fit", x.opens(0, 0, 0), 0);
            x.ask(2, 5);
            d.due("the other is broken", x.opened(0), 0);
        }
        CutDeeper y = Due.of("strength 1;key 0 0 cut 1 0 0;key 5 0 cut 0 1 0;lock asks 1 0 0;lock asks 1 0 0 ward;lock ward");
        d.due("what it opens and what it fits", y.opened(1), 1 + 4);
        y.file(1, 1);
        d.due("broken itself", y.opened(1), 0);
        d.due("the other all the same", y.opened(0), 1);
    }

    private static void bitsOfAll() {
        d.promise("21, 22 bits: none, all");
        CutDeeper x = Due.of("key 0 0;key 1 0;key 2 0;key 3 0;key 4 0;key 5 0;lock;lock;lock;lock;lock;lock;lock;lock");
        for (int key = 0; key < 6; key++) {
            d.due("all locks", x.opened(key), 255);
        }
        for (int lock = 0; lock < 8; lock++) {
            d.due("all keys", x.who(lock), 63);
        }
        x.asks(7, 0, 3);
        d.due("all but the last", x.opened(5), 127);
        d.due("none", x.who(7), 0);
        d.due("no locks", Due.of("key 5 0").opened(0), 0);
        d.due("no keys", Due.of("lock").who(0), 0);
        d.due("opened(6)", x.opened(6), BAD);
        d.due("who(8)", x.who(8), BAD);
    }

    private static void wrongFirstAndLast() {
        d.promise("23 the first KEY, and of that the first LOCK; NONE: all is RIGHT");
        d.due("neither", new CutDeeper().wrong(), -1);
        d.due("no locks", Due.of("key 0 0").wrong(), -1);
        d.due("no keys", Due.of("lock").wrong(), -1);
        CutDeeper x = Due.of("key 0 0;key 0 0;key 0 0;key 0 0;key 0 0;key 0 0;lock asks 3 3 3;lock asks 3 3 3;"
            + "lock asks 3 3 3;lock asks 3 3 3;lock asks 3 3 3;lock asks 3 3 3;lock asks 3 3 3;lock asks 3 3 3");
        d.due("all is right", x.wrong(), -1);
        x.may(5, 7, true);
        d.due("the last of the last", x.wrong(), 57);
        x.may(5, 0, true);
        d.due("the first of the last", x.wrong(), 50);
        x.may(0, 7, true);
        d.due("the last of the first", x.wrong(), 7);
        x.may(0, 0, true);
        d.due("the first of the first", x.wrong(), 0);
        d.due("NONE wasn't refused", x.status(12), 0);
    }

    private static void wrongsNoneAndAll() {
        d.promise("24 how many pairs: none, all");
        d.due("neither", new CutDeeper().wrongs(), 0);
        CutDeeper x = Due.of("key 0 0;key 0 0;key 0 0;key 0 0;key 0 0;key 0 0;lock;lock;lock;lock;lock;lock;lock;lock");
        d.due("all", x.wrongs(), 48);
        x.row(0, 1, 6);
        for (int key = 0; key < 6; key++) {
            x.set(0, key, 255);
        }
        x.list(0);
        d.due("none", x.wrongs(), 0);
        x.may(5, 7, false);
        d.due("one", x.wrongs(), 1);
    }

    private static void judged() {
        d.promise("25 an element (bits of LOCKS there are alone) for each KEY; BAD: fewer elements");
        CutDeeper x = Due.of("key 0 0;key 3 0;lock;lock;lock;lock;lock;lock;lock;lock ward");
        for (int sort = 0; sort <= 3; sort++) {
            x.row(sort, sort, 2);
            x.set(sort, 0, 127);
            x.set(sort, 1, 255);
            d.due("sort " + sort + ", as it is", x.judge(sort), -1);
            x.set(sort, 1, 127);
            d.due("the last key opens more", x.judge(sort), 1);
            x.set(sort, 0, -1);
            d.due("the first opens less", x.judge(sort), 0);
        }
        x.row(4, 3, 1);
        d.due("one too few", x.judge(4), BAD);
        x.row(4, 3, 0);
        d.due("none", x.judge(4), BAD);
        CutDeeper y = new CutDeeper();
        y.row(0, 4, 0);
        d.due("no keys, no elements", y.judge(0), -1);
        CutDeeper z = Due.of("key 0 0;lock asks 1 0 0");
        Due.tell(z, 0, 2, 99);
        d.due("a lock there is not, an element too many", z.judge(0), -1);
        Due.tell(z, 0, 1L << 32);
        d.due("a bit far above", z.judge(0), -1);
    }

    private static void listed() {
        d.promise("26 MAY becomes as that list has it: how many KEYS; BAD likewise");
        CutDeeper x = Due.of("key 0 0;key 0 0;lock;lock;lock;lock;lock;lock;lock;lock;may 0 0;may 1 1");
        x.row(0, 0, 3);
        x.set(0, 0, 128);
        x.set(0, 2, 1);
        d.due("bytes", x.list(0), 2);
        d.due("the highest lock", x.keyOf(0, 4), 128);
        d.due("none", x.keyOf(1, 4), 0);
        x.row(0, 4, 2);
        x.set(0, 1, 255);
        d.due("booleans", x.list(0), 2);
        d.due("not so", x.keyOf(0, 4), 0);
        d.due("so", x.keyOf(1, 4), 1);
        Due.tell(x, 0, Long.MIN_VALUE, -1);
        d.due("longs", x.list(0), 2);
        d.due("a bit far above", x.keyOf(0, 4), 0);
        d.due("all there are", x.keyOf(1, 4), 255);
        x.row(0, 2, 1);
        d.due("one too few", x.list(0), BAD);
        d.due("as it was", x.keyOf(1, 4), 255);
        CutDeeper y = Due.of("key 0 0");
        Due.tell(y, 0, -1);
        d.due("no locks", y.list(0), 1);
        y.lock(false);
        d.due("it may not what comes later", y.keyOf(0, 4), 0);
        CutDeeper z = new CutDeeper();
        z.row(0, 0, 0);
        d.due("no keys", z.list(0), 0);
    }
}
