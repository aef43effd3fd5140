/** Promises 1 to 8 and 49 to 51: the sentences that name an edge, each by a test of its own. */
public final class ShelfEdgesTest {
    private static final Due d = new Due();
    private static final int BAD = -2, OTHER = -3, STUCK = -5, FULL = -6;
    private static final int MIN = Integer.MIN_VALUE, MAX = Integer.MAX_VALUE;

    public static void main(String[] args) {
        allCallsThatAreUsed();
        nothingThere();
        atFirst();
        rowsOfNoElements();
        rowsOfMostElements();
        newRowsAreEmpty();
        lowestBitsOfBytes();
        lowestBitsOfShorts();
        lowestBitsOfInts();
        longsAsTheyAre();
        booleansWhetherNotZero();
        firstAndLastElement();
        copiesAsTheyWere();
        copiesOfNoneAndAll();
        copiesKeepTheRest();
        copiesOfEachSort();
        elementsThereAreNot();
        whatShelvesHold();
        showsAndTakesAway();
        saysGone();
        saysWherePlacesWrap();
        saysWhatIsBorne();
        saysWards();
        saysOver();
        saysForKindsAbove();
        keptBesides();
        keptAgain();
        backToNoKeys();
        backWithShelves();
        backWithoutEnd();
        statusOfEachWhat();
        countsOfRefusals();
        d.end();
    }

    private static void allCallsThatAreUsed() {
        d.promise("An object is used for at most 512 calls after it has been made");
        CutDeeper x = new CutDeeper();
        for (int call = 1; call < 512; call++) {
            x.opened(0);
        }
        d.due("call 512", x.status(12), 511);
        CutDeeper y = new CutDeeper();
        for (int call = 1; call <= 510; call++) {
            d.due("seed", y.seed(call), call == 1 ? 1 : call - 1);
        }
        d.due("call 511", y.key(0, 0), 0);
        d.due("call 512", y.status(9), 510);
    }

    private static void nothingThere() {
        d.promise("1 no KEYS, no LOCKS");
        CutDeeper x = new CutDeeper();
        d.due("keyOf(0, 0)", x.keyOf(0, 0), BAD);
        d.due("lockOf(0, 0)", x.lockOf(0, 0), BAD);
        d.due("opened(0)", x.opened(0), BAD);
        d.due("who(0)", x.who(0), BAD);
        d.due("show(0, 0)", x.show(0, 0), BAD);
        d.due("cuts(1, -1)", x.cuts(1, -1), BAD);
        d.due("asked(1, -1)", x.asked(1, -1), BAD);
        d.due("status(0)", x.status(0), 0);
        d.due("status(1)", x.status(1), 0);
    }

    private static void atFirst() {
        d.promise("1 3 PLACES, 3 DEEP; STRENGTH 12; SEED 1; COINS 0; THE TAPE is empty");
        CutDeeper x = new CutDeeper();
        d.due("house", x.house(), -20);
        d.due("the last place", x.idle(2), 0);
        d.due("no place", x.idle(3), BAD);
        d.due("seed", x.seed(1), 1);
        d.due("strength", x.ask(2, 12), 12);
        d.due("deep", x.ask(1, 3), 3);
        d.due("places", x.ask(0, 3), 3);
        d.due("coins", x.status(5), 0);
        x.key(0, 0);
        x.lock(false);
        d.due("as deep as can be", x.asks(0, 2, 3), 0);
        d.due("not deeper", x.asks(0, 2, 4), BAD);
    }

    private static void rowsOfNoElements() {
        d.promise("2 a ROW has 0 elements at least");
        CutDeeper x = new CutDeeper();
        for (int sort = 0; sort <= 4; sort++) {
            d.due("row", x.row(sort, sort, 0), 1);
            d.due("it holds a row", x.holds(sort), sort);
            d.due("no element", x.set(sort, 0, 1), BAD);
            d.due("none", x.element(sort, 0), 0);
        }
        d.due("they count", x.status(10), 5);
    }

    private static void rowsOfMostElements() {
        d.promise("2 a ROW has 40 elements at most");
        CutDeeper x = new CutDeeper();
        for (int sort = 0; sort <= 4; sort++) {
            d.due("row", x.row(7, sort, 40), 1);
            d.due("the last", x.set(7, 39, 1), 1);
            d.due("it is", x.element(7, 39), 1);
            d.due("none behind", x.set(7, 40, 1), BAD);
        }
        d.due("41", x.row(7, 0, 41), BAD);
        d.due("the row is as it was", x.element(7, 39), 1);
    }

    private static void newRowsAreEmpty() {
        d.promise("2 elements are 0, or not so, at first");
        for (int sort = 0; sort <= 4; sort++) {
            CutDeeper x = new CutDeeper();
            x.row(0, 3, 40);
            for (int i = 0; i < 40; i++) {
                x.set(0, i, -1);
            }
            x.row(0, sort, 1);
            x.row(0, sort, 40);
            for (int i = 0; i < 40; i++) {
                d.due("element", x.element(0, i), 0);
            }
        }
        CutDeeper y = new CutDeeper();
        y.row(0, 2, 3);
        y.set(0, 2, 9);
        y.row(0, 2, 2);
        d.due("a shorter row has no such element", y.element(0, 2), 0);
        d.due("nor may it be set", y.set(0, 2, 9), BAD);
    }

    private static void puts(int sort, long[] told, long[] want) {
        CutDeeper x = new CutDeeper();
        x.row(3, sort, 2);
        for (int i = 0; i < told.length; i++) {
            d.due("set " + told[i], x.set(3, 1, told[i]), 1);
            d.due("element of " + told[i], x.element(3, 1), want[i]);
            d.due("the one ahead", x.element(3, 0), 0);
        }
    }

    private static void lowestBitsOfBytes() {
        d.promise("3 bytes keep their lowest bits");
        puts(0, new long[] {0, 127, 128, 255, 256, -1, -128, -129, -256, 511, 1L << 40, Long.MAX_VALUE, Long.MIN_VALUE},
            new long[] {0, 127, -128, -1, 0, -1, -128, 127, 0, -1, 0, -1, 0});
    }

    private static void lowestBitsOfShorts() {
        d.promise("3 shorts keep their lowest bits");
        puts(1, new long[] {0, 128, 32767, 32768, 65535, 65536, -32768, -32769, 1L << 40, Long.MAX_VALUE, Long.MIN_VALUE},
            new long[] {0, 128, 32767, -32768, -1, 0, -32768, 32767, 0, -1, 0});
    }

    private static void lowestBitsOfInts() {
        d.promise("3 ints keep their lowest bits");
        puts(2, new long[] {65536, MAX, MAX + 1L, MIN, MIN - 1L, 1L << 32, (1L << 32) - 1, Long.MAX_VALUE, Long.MIN_VALUE},
            new long[] {65536, MAX, MIN, MIN, MAX, 0, -1, -1, 0});
    }

    private static void longsAsTheyAre() {
        d.promise("3 longs are as they are told");
        long[] told = {0, -1, MAX + 1L, 1L << 32, 1L << 40, Long.MAX_VALUE, Long.MIN_VALUE};
        puts(3, told, told);
    }

    private static void booleansWhetherNotZero() {
        d.promise("3 of booleans: whether it is not 0");
        puts(4, new long[] {1, 0, 2, -1, 256, 0, 65536, 1L << 32, Long.MIN_VALUE, Long.MAX_VALUE},
            new long[] {1, 0, 1, 1, 1, 0, 1, 1, 1, 1});
    }

    private static void firstAndLastElement() {
        d.promise("3 BAD i");
        CutDeeper x = new CutDeeper();
        for (int size : new int[] {1, 2, 39, 40}) {
            x.row(0, 3, size);
            d.due("the first", x.set(0, 0, 5), 1);
            d.due("the last", x.set(0, size - 1, 6), 1);
            d.due("ahead of it", x.set(0, -1, 7), BAD);
            d.due("behind it", x.set(0, size, 7), BAD);
            d.due("the last is", x.element(0, size - 1), 6);
        }
    }

    private static CutDeeper counted(int size) {
        CutDeeper x = new CutDeeper();
        x.row(0, 2, size);
        for (int i = 0; i < size; i++) {
            x.set(0, i, i + 1);
        }
        return x;
    }

    private static void dueRow(CutDeeper x, int s, int... want) {
        for (int i = 0; i < want.length; i++) {
            d.due("element " + i, x.element(s, i), want[i]);
        }
    }

    private static void copiesAsTheyWere() {
        d.promise("4 as they were");
        CutDeeper x = counted(6);
        d.due("one behind", x.copy(0, 0, 0, 1, 5), 5);
        dueRow(x, 0, 1, 1, 2, 3, 4, 5);
        CutDeeper y = counted(6);
        d.due("one ahead", y.copy(0, 0, 1, 0, 5), 5);
        dueRow(y, 0, 2, 3, 4, 5, 6, 6);
        CutDeeper z = counted(6);
        d.due("where they are", z.copy(0, 0, 2, 2, 4), 4);
        dueRow(z, 0, 1, 2, 3, 4, 5, 6);
    }

    private static void copiesOfNoneAndAll() {
        d.promise("4 n elements: none, all");
        CutDeeper x = counted(40);
        x.row(1, 2, 40);
        d.due("all", x.copy(0, 1, 0, 0, 40), 40);
        d.due("the first", x.element(1, 0), 1);
        d.due("the last", x.element(1, 39), 40);
        d.due("one more", x.copy(0, 1, 0, 0, 41), BAD);
        d.due("the last alone", x.copy(0, 1, 39, 0, 1), 1);
        d.due("it came", x.element(1, 0), 40);
        d.due("onto the last", x.copy(0, 1, 4, 39, 1), 1);
        d.due("it came", x.element(1, 39), 5);
        d.due("none", x.copy(0, 1, 3, 4, 0), 0);
        d.due("none behind the end", x.copy(0, 1, 41, 0, 0), BAD);
        d.due("none onto behind the end", x.copy(0, 1, 0, 41, 0), BAD);
        CutDeeper y = new CutDeeper();
        y.row(0, 0, 0);
        y.row(1, 0, 0);
        d.due("none of none", y.copy(0, 1, 0, 0, 0), 0);
        d.due("one of none", y.copy(0, 1, 0, 0, 1), BAD);
        d.due("a sum that wraps", y.copy(0, 1, MAX, MAX, MAX), BAD);
        d.due("a sum that wraps", y.copy(0, 1, MIN, 0, MIN), BAD);
    }

    private static void copiesKeepTheRest() {
        d.promise("4 from place i on come to places j on");
        CutDeeper x = counted(5);
        x.row(1, 2, 4);
        for (int i = 0; i < 4; i++) {
            x.set(1, i, -1);
        }
        d.due("copy", x.copy(0, 1, 3, 1, 2), 2);
        dueRow(x, 1, -1, 4, 5, -1);
        dueRow(x, 0, 1, 2, 3, 4, 5);
        d.due("one too many from", x.copy(0, 1, 3, 0, 3), BAD);
        d.due("one too many to", x.copy(0, 1, 0, 2, 3), BAD);
        dueRow(x, 1, -1, 4, 5, -1);
    }

    private static void copiesOfEachSort() {
        d.promise("4 OTHER (also ROWS of two SORTS)");
        CutDeeper x = new CutDeeper();
        for (int sort = 0; sort <= 4; sort++) {
            x.row(sort, sort, 1);
            x.set(sort, 0, -1);
        }
        x.row(5, 0, 1);
        for (int from = 0; from <= 4; from++) {
            for (int to = 0; to <= 4; to++) {
                d.due("copy " + from + " " + to, x.copy(from, to, 0, 0, 1), from == to ? 1 : OTHER);
            }
        }
        d.due("one sort", x.copy(0, 5, 0, 0, 1), 1);
        d.due("it came", x.element(5, 0), -1);
    }

    private static void elementsThereAreNot() {
        d.promise("5 0: none, no ROW (nothing is refused)");
        CutDeeper x = counted(3);
        x.key(0, 0);
        x.show(1, 0);
        for (int s : new int[] {-1, 8, MIN, MAX, 1, 2}) {
            d.due("element(" + s + ", 0)", x.element(s, 0), 0);
        }
        for (int i : new int[] {-1, 3, 40, MIN, MAX}) {
            d.due("element(0, " + i + ")", x.element(0, i), 0);
        }
        x.show(0, 0);
        d.due("a key in its place", x.element(0, 0), 0);
        for (int what = 12; what <= 16; what++) {
            d.due("nothing is refused", x.status(what), 0);
        }
    }

    private static void whatShelvesHold() {
        d.promise("6 NONE NOTHING, no SHELF; 0 to 4; 10 and the number of a KEY");
        CutDeeper x = Due.of("key 0 0;key 0 0;key 0 0;key 0 0;key 0 0;key 0 0");
        for (int s : new int[] {-1, 8, MIN, MAX}) {
            d.due("holds(" + s + ")", x.holds(s), -1);
        }
        for (int s = 0; s < 8; s++) {
            d.due("nothing", x.holds(s), -1);
            x.row(s, s % 5, 1);
            d.due("a row", x.holds(s), s % 5);
            x.show(s, s % 6);
            d.due("a key", x.holds(s), 10 + s % 6);
            x.show(s, -1);
            d.due("nothing again", x.holds(s), -1);
        }
        d.due("nothing is refused", x.status(12), 0);
    }

    private static void showsAndTakesAway() {
        d.promise("7 or NOTHING (key NONE)");
        CutDeeper x = new CutDeeper();
        d.due("no keys yet", x.show(0, 0), BAD);
        d.due("nothing onto nothing", x.show(7, -1), 1);
        d.due("none are in use", x.status(10), 0);
        x.key(0, 0);
        for (int s = 0; s < 8; s++) {
            d.due("one key in all", x.show(s, 0), 1);
        }
        d.due("all are in use", x.status(10), 8);
        d.due("the second isn't there", x.show(0, 1), BAD);
        d.due("away with one", x.show(7, -1), 1);
        d.due("seven", x.status(10), 7);
    }

    private static CutDeeper shown(String text) {
        CutDeeper x = Due.of(text);
        for (int key = 0; key < x.status(0); key++) {
            x.show(key, key);
        }
        return x;
    }

    private static void saysGone() {
        d.promise("8 KEY its GONE: none, all");
        CutDeeper x = shown("places 5;deep 4;key 0 0;key 3 0 cut 4 4 4 4 4;key 1 0 cut 0 0 0 0 1");
        d.due("none", x.says(0, 0), 0);
        d.due("all", x.says(1, 0), 20);
        d.due("being worn is no cut", x.says(2, 0), 1);
    }

    private static void saysWherePlacesWrap() {
        d.promise("8 WORN at which PLACE it is worn: a (modulo n)");
        for (int places = 1; places <= 5; places++) {
            for (int a = 0; a <= 9; a++) {
                CutDeeper x = new CutDeeper();
                x.ask(0, places);
                x.key(1, a);
                x.show(0, 0);
                d.due("a " + a + " of " + places, x.says(0, 1), a % places);
                for (int place = 0; place < places; place++) {
                    d.due("depth", x.keyOf(0, 20 + place), place == a % places ? 1 : 0);
                }
            }
        }
    }

    private static void saysWhatIsBorne() {
        d.promise("8 THIN, BLANK how much GONE it can bear: STRENGTH less a (0 at least)");
        int[][] cases = {{1, 0, 1}, {1, 1, 0}, {1, 2, 0}, {1, 9, 0}, {9, 9, 0}, {10, 9, 1}, {20, 0, 20}, {20, 9, 11}};
        for (int[] c : cases) {
            CutDeeper x = new CutDeeper();
            x.ask(2, c[0]);
            x.key(2, c[1]);
            x.key(4, c[1]);
            x.show(0, 0);
            x.show(1, 1);
            d.due("THIN", x.says(0, 2), c[2]);
            d.due("BLANK", x.says(1, 4), c[2]);
            d.due("BLANK taken for THIN", x.says(1, 2), c[2]);
            d.due("THIN is no BLANK", x.says(0, 4), OTHER);
        }
        CutDeeper y = shown("strength 3;key 2 1 cut 3 3 3");
        d.due("a broken one bears as much", y.says(0, 2), 2);
    }

    private static void saysWards() {
        d.promise("8 WARDED how many LOCKS with a WARD it OPENS: none, all");
        d.due("no locks", shown("key 3 0").says(0, 3), 0);
        d.due("no ward", shown("key 3 0;lock;lock").says(0, 3), 0);
        CutDeeper x = shown("strength 1;key 3 0;key 5 0;lock ward;lock ward;lock ward;lock ward;lock ward;lock ward;"
            + "lock ward;lock ward");
        d.due("all", x.says(0, 3), 8);
        d.due("a MASTER", x.says(1, 3), 8);
        x.asks(7, 2, 1);
        d.due("all but one", x.says(0, 3), 7);
        x.file(0, 0);
        x.file(0, 0);
        d.due("broken", x.says(0, 3), 0);
    }

    private static void saysOver() {
        d.promise("8 MASTER how many KEYS it is OVER: none, all");
        d.due("alone", shown("key 5 0").says(0, 5), 0);
        d.due("no locks, over all others", shown("key 5 0;key 0 0;key 4 9").says(0, 5), 2);
        CutDeeper x = shown("strength 3;key 5 0;key 3 0 cut 1 0 0;key 3 0 cut 1 1 0;key 3 0;lock asks 1 0 0;lock asks 0 1 0");
        d.due("over one that opens nothing", x.says(0, 5), 1);
        x.file(0, 0);
        d.due("and over its like", x.says(0, 5), 2);
        x.file(0, 1);
        d.due("over all", x.says(0, 5), 3);
        x.file(0, 1);
        x.file(0, 1);
        d.due("broken: over one that opens nothing", x.says(0, 5), 1);
        CutDeeper y = shown("key 0 0;key 0 0;key 0 0;key 0 0;key 0 0;key 5 0");
        d.due("the last, over all", y.says(5, 5), 5);
    }

    private static void saysForKindsAbove() {
        d.promise("8 OTHER (also if it is of no such KIND nor of one under it)");
        CutDeeper x = shown("key 0 0;key 1 0;key 2 0;key 3 0;key 4 0;key 5 0");
        int[] under = {1, 3, 5, 9, 21, 41};
        for (int key = 0; key < 6; key++) {
            for (int kind = 0; kind < 6; kind++) {
                boolean is = (under[key] >> kind & 1) != 0;
                d.due("key " + key + " as " + kind, x.says(key, kind) == OTHER ? 0 : 1, is ? 1 : 0);
            }
        }
        d.due("each was refused", x.status(13), 36 - 13);
    }

    private static void keptBesides() {
        d.promise("49 all is kept, but THE TAPE, SHELVES and REFUSALS");
        CutDeeper x = new CutDeeper();
        x.feed(65);
        x.row(0, 2, 1);
        x.set(0, 0, 3);
        x.opened(0);
        d.due("image", x.image(), 1);
        x.feed(66);
        x.set(0, 0, 4);
        x.row(1, 4, 0);
        x.opened(0);
        x.wipe();
        x.feed(67);
        d.due("back", x.back(), 1);
        d.due("the tape is as it is", x.status(8), 1);
        d.due("the row is as it is", x.element(0, 0), 4);
        d.due("the new one is there", x.holds(1), 4);
        d.due("refusals are as they are", x.status(12), 2);
    }

    private static void keptAgain() {
        d.promise("49 what is kept last counts, and filing later leaves it");
        CutDeeper x = Due.of("places 1;deep 4;key 0 0;lock;may 0 0");
        x.image();
        x.file(0, 0);
        x.image();
        x.file(0, 0);
        x.asks(0, 0, 4);
        x.may(0, 0, false);
        d.due("back", x.back(), 1);
        d.due("cut", x.keyOf(0, 10), 1);
        d.due("coins", x.status(5), 1);
        d.due("asks", x.lockOf(0, 10), 0);
        d.due("may", x.keyOf(0, 4), 1);
        d.due("opens", x.opened(0), 1);
    }

    private static void backToNoKeys() {
        d.promise("50 all is again as it was kept: an empty house");
        CutDeeper x = new CutDeeper();
        x.image();
        x.ask(0, 5);
        x.ask(1, 4);
        x.ask(2, 1);
        x.seed(8);
        Due.read(x, "key 3 9 cut 1 1 1 1 1;lock asks 1 1 1 1 1 ward;may 0 0");
        d.due("back", x.back(), 1);
        int[] want = {0, 0, 3, 3, 12, 0, 0, 0, 0, 1, 0};
        for (int what = 0; what < want.length; what++) {
            d.due("status(" + what + ")", x.status(what), want[what]);
        }
        d.due("places may be asked again", x.ask(0, 4), 3);
        d.due("a key is as new", x.key(2, 1), 0);
        d.due("uncut", x.keyOf(0, 2), 0);
        d.due("may nothing", x.keyOf(0, 4), 0);
        d.due("a lock is as new", x.lock(false), 0);
        d.due("asks nothing", x.lockOf(0, 1), 0);
        d.due("at the last place, too", x.idle(3), 1);
        d.due("opens", x.opens(0, 0, 1), 1);
    }

    private static void backWithShelves() {
        d.promise("50 SHELVES with KEYS hold those of the same numbers, or NOTHING");
        CutDeeper x = Due.of("key 0 0;key 0 0");
        x.image();
        x.key(0, 0);
        x.key(0, 0);
        for (int s = 0; s < 4; s++) {
            x.show(s, s);
        }
        x.row(4, 4, 3);
        d.due("five are in use", x.status(10), 5);
        x.back();
        int[] want = {10, 11, -1, -1, 4, -1, -1, -1};
        for (int s = 0; s < 8; s++) {
            d.due("holds(" + s + ")", x.holds(s), want[s]);
        }
        d.due("three are in use", x.status(10), 3);
        x.key(0, 0);
        d.due("a new key of that number isn't shown", x.holds(2), -1);
        for (int s = 0; s < 8; s++) {
            x.show(s, 2);
        }
        x.back();
        for (int s = 0; s < 8; s++) {
            d.due("each shelf gives it up", x.holds(s), -1);
        }
        d.due("none are in use", x.status(10), 0);
    }

    private static void backWithoutEnd() {
        d.promise("50 STUCK: nothing was kept; else as often as one will");
        CutDeeper x = Due.of("key 0 0");
        d.due("back", x.back(), STUCK);
        d.due("back", x.back(), STUCK);
        x.image();
        for (int time = 0; time < 3; time++) {
            x.file(0, 0);
            d.due("back", x.back(), 1);
            d.due("uncut", x.keyOf(0, 2), 0);
        }
        d.due("STUCK", x.status(15), 2);
    }

    private static void statusOfEachWhat() {
        d.promise("51 KEYS that are BROKEN, LOCKS with a WARD: the first, the last, all, none");
        CutDeeper x = Due.of("strength 1;key 0 0 cut 2 0 0;key 0 0 cut 1 0 0;key 2 1;key 0 0;key 0 0;key 4 9 cut 0 0 1;"
            + "lock ward;lock;lock;lock;lock;lock;lock;lock ward");
        d.due("KEYS", x.status(0), 6);
        d.due("LOCKS", x.status(1), 8);
        d.due("BROKEN", x.status(6), 1 + 32);
        d.due("WARDS", x.status(7), 1 + 128);
        x.ask(2, 20);
        d.due("none is", x.status(6), 0);
        d.due("12 is a count", x.status(12), 0);
        d.due("11 is none", x.status(11), -1);
        d.due("17 is none", x.status(17), -1);
        d.due("-1 is none", x.status(-1), -1);
    }

    private static void countsOfRefusals() {
        d.promise("51 12 to 16: REFUSALS -2 to -6");
        CutDeeper x = Due.of("key 4 0;lock;lock;lock;lock;lock;lock;lock;lock");
        x.row(0, 0, 0);
        int[] times = {5, 4, 3, 2, 6};
        for (int time = 1; time <= 6; time++) {
            d.due("BAD", time <= times[0] ? x.opened(1) : BAD, BAD);
            d.due("OTHER", time <= times[1] ? x.says(0, 0) : OTHER, OTHER);
            d.due("NOTHING", time <= times[2] ? x.says(1, 0) : -4, -4);
            d.due("STUCK", time <= times[3] ? x.file(0, 0) : STUCK, STUCK);
            d.due("FULL", time <= times[4] ? x.lock(true) : FULL, FULL);
        }
        for (int sort = 0; sort < 5; sort++) {
            d.due("status(" + (12 + sort) + ")", x.status(12 + sort), times[sort]);
        }
    }
}
