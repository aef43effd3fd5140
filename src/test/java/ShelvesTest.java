/** Promises 1 to 8, 49 to 51: a new object, shelves, images and the status. */
public final class ShelvesTest {
    private static final Due d = new Due();
    private static final int BAD = -2, OTHER = -3, NOTHING = -4, STUCK = -5;

    public static void main(String[] args) {
        newObject();
        row();
        set();
        copy();
        element();
        holds();
        show();
        says();
        image();
        back();
        status();
        refusals();
        d.end();
    }

    private static void newObject() {
        d.promise("1 a new object");
        CutDeeper x = new CutDeeper();
        d.due("NONE", CutDeeper.NONE, -1);
        int[] want = {0, 0, 3, 3, 12, 0, 0, 0, 0, 1, 0, -1, 0, 0, 0, 0, 0, -1};
        for (int what = 0; what < want.length; what++) {
            d.due("status(" + what + ")", x.status(what), want[what]);
        }
        for (int s = 0; s < 8; s++) {
            d.due("holds", x.holds(s), -1);
        }
        d.due("wipe", x.wipe(), 0);
    }

    private static void row() {
        d.promise("2 row");
        CutDeeper x = new CutDeeper();
        d.due("row(0, 0, 0)", x.row(0, 0, 0), 1);
        d.due("row(7, 4, 40)", x.row(7, 4, 40), 1);
        d.due("holds(0)", x.holds(0), 0);
        d.due("holds(7)", x.holds(7), 4);
        d.due("set(7, 39, 5)", x.set(7, 39, 5), 1);
        d.due("element(7, 39)", x.element(7, 39), 1);
        d.due("row(7, 3, 40)", x.row(7, 3, 40), 1);
        d.due("a new row is empty", x.element(7, 39), 0);
        d.due("row(-1, 0, 0)", x.row(-1, 0, 0), BAD);
        d.due("row(8, 0, 0)", x.row(8, 0, 0), BAD);
        d.due("row(0, -1, 0)", x.row(0, -1, 0), BAD);
        d.due("row(0, 5, 0)", x.row(0, 5, 0), BAD);
        d.due("row(0, 0, -1)", x.row(0, 0, -1), BAD);
        d.due("row(0, 0, 41)", x.row(0, 0, 41), BAD);
        d.due("still", x.holds(0), 0);
        x.key(0, 0);
        x.show(1, 0);
        d.due("over a key", x.row(1, 2, 3), 1);
        d.due("holds(1)", x.holds(1), 2);
    }

    private static void set() {
        d.promise("3 set");
        CutDeeper x = new CutDeeper();
        long v = 0x123456789ABCDEF0L + 0x8080;
        long[] want = {(byte) v, (short) v, (int) v, v, 1};
        for (int sort = 0; sort <= 4; sort++) {
            x.row(sort, sort, 2);
            d.due("set", x.set(sort, 1, v), 1);
            d.due("element of sort " + sort, x.element(sort, 1), want[sort]);
            d.due("the other", x.element(sort, 0), 0);
        }
        x.set(4, 1, 256);
        d.due("256 is not 0", x.element(4, 1), 1);
        x.set(4, 1, 0);
        d.due("0", x.element(4, 1), 0);
        x.set(0, 0, 200);
        d.due("200 as a byte", x.element(0, 0), -56);
        x.set(1, 0, 40000);
        d.due("40000 as a short", x.element(1, 0), -25536);
        d.due("set(-1, 0, 0)", x.set(-1, 0, 0), BAD);
        d.due("set(8, 0, 0)", x.set(8, 0, 0), BAD);
        d.due("nothing", x.set(5, -1, 0), NOTHING);
        x.key(0, 0);
        x.show(6, 0);
        d.due("a key", x.set(6, -1, 0), OTHER);
        d.due("i -1", x.set(0, -1, 0), BAD);
        d.due("i 2", x.set(0, 2, 0), BAD);
    }

    private static void copy() {
        d.promise("4 copy");
        CutDeeper x = new CutDeeper();
        Due.tell(x, 0, 1, 2, 3, 4, 5);
        Due.tell(x, 1, 0, 0, 0);
        d.due("copy(0, 1, 1, 1, 2)", x.copy(0, 1, 1, 1, 2), 2);
        d.due("element(1, 0)", x.element(1, 0), 0);
        d.due("element(1, 1)", x.element(1, 1), 2);
        d.due("element(1, 2)", x.element(1, 2), 3);
        d.due("onto itself, behind", x.copy(0, 0, 0, 1, 4), 4);
        long[] want = {1, 1, 2, 3, 4};
        for (int i = 0; i < 5; i++) {
            d.due("as they were " + i, x.element(0, i), want[i]);
        }
        d.due("onto itself, ahead", x.copy(0, 0, 2, 0, 3), 3);
        d.due("element(0, 0)", x.element(0, 0), 2);
        d.due("element(0, 1)", x.element(0, 1), 3);
        d.due("all", x.copy(0, 0, 0, 0, 5), 5);
        d.due("none, at the ends", x.copy(0, 1, 5, 3, 0), 0);
        d.due("behind the end", x.copy(0, 1, 6, 3, 0), BAD);
        d.due("behind the other end", x.copy(0, 1, 5, 4, 0), BAD);
        d.due("too many from", x.copy(1, 0, 1, 0, 3), BAD);
        d.due("too many to", x.copy(0, 1, 0, 1, 3), BAD);
        d.due("n -1", x.copy(0, 1, 0, 0, -1), BAD);
        d.due("i -1", x.copy(0, 1, -1, 0, 1), BAD);
        d.due("j -1", x.copy(0, 1, 0, -1, 1), BAD);
        d.due("i largest", x.copy(0, 1, Integer.MAX_VALUE, 0, 1), BAD);
        d.due("n largest", x.copy(0, 1, 1, 1, Integer.MAX_VALUE), BAD);
        d.due("p -1", x.copy(-1, 1, 0, 0, 1), BAD);
        d.due("q 8", x.copy(0, 8, 0, 0, 1), BAD);
        d.due("p 8, q a key", x.copy(8, 3, 0, 0, 1), BAD);
        x.row(2, 2, 5);
        d.due("two sorts", x.copy(0, 2, 0, 0, -1), OTHER);
        x.key(0, 0);
        x.show(3, 0);
        d.due("from a key", x.copy(3, 0, 0, 0, -1), OTHER);
        d.due("to a key", x.copy(0, 3, 0, 0, -1), OTHER);
        d.due("nothing, to a key", x.copy(7, 3, 0, 0, -1), OTHER);
        d.due("a key, to nothing", x.copy(3, 7, 0, 0, -1), OTHER);
        d.due("from nothing", x.copy(7, 0, 0, 0, -1), NOTHING);
        d.due("to nothing", x.copy(0, 7, 0, 0, -1), NOTHING);
    }

    private static void element() {
        d.promise("5 element");
        CutDeeper x = new CutDeeper();
        Due.tell(x, 0, 7, 8);
        x.key(0, 0);
        x.show(1, 0);
        d.due("element(0, 1)", x.element(0, 1), 8);
        d.due("element(0, 2)", x.element(0, 2), 0);
        d.due("element(0, -1)", x.element(0, -1), 0);
        d.due("a key", x.element(1, 0), 0);
        d.due("nothing", x.element(2, 0), 0);
        d.due("no shelf", x.element(-1, 0), 0);
        d.due("no shelf", x.element(8, 0), 0);
        d.due("not refused", x.status(12) + x.status(13) + x.status(14), 0);
        x.show(0, -1);
        d.due("a row that is gone", x.element(0, 1), 0);
    }

    private static void holds() {
        d.promise("6 holds");
        CutDeeper x = Due.of("key 0 0;key 1 1;key 2 2;key 3 3;key 4 4;key 5 5");
        for (int sort = 0; sort <= 4; sort++) {
            x.row(sort, sort, 0);
            d.due("sort " + sort, x.holds(sort), sort);
        }
        x.show(5, 0);
        x.show(6, 5);
        d.due("key 0", x.holds(5), 10);
        d.due("key 5", x.holds(6), 15);
        d.due("nothing", x.holds(7), -1);
        d.due("no shelf", x.holds(8), -1);
        d.due("no shelf", x.holds(-1), -1);
        d.due("not refused", x.status(12), 0);
    }

    private static void show() {
        d.promise("7 show");
        CutDeeper x = Due.of("key 0 0;key 0 1");
        d.due("show(0, 1)", x.show(0, 1), 1);
        d.due("holds(0)", x.holds(0), 11);
        d.due("show(0, NONE)", x.show(0, -1), 1);
        d.due("holds(0)", x.holds(0), -1);
        d.due("show(0, 2)", x.show(0, 2), BAD);
        d.due("show(0, -2)", x.show(0, -2), BAD);
        d.due("show(-1, 0)", x.show(-1, 0), BAD);
        d.due("show(8, -1)", x.show(8, -1), BAD);
        x.row(1, 3, 2);
        d.due("over a row", x.show(1, 0), 1);
        d.due("holds(1)", x.holds(1), 10);
    }

    private static void says() {
        d.promise("8 says");
        CutDeeper x = Due.of("strength 5;key 0 2 cut 1 0 1;key 1 5 cut 2 0 0;key 2 3 cut 0 1 0;"
            + "key 3 1 cut 1 1 1;key 4 9 cut 0 0 0;key 5 0 cut 1 0 0;"
            + "lock asks 1 0 0 ward;lock asks 1 0 1;lock asks 0 0 0 ward");
        for (int s = 0; s < 6; s++) {
            x.show(s, s);
        }
        int[] gone = {2, 2, 1, 3, 0, 1};
        for (int s = 0; s < 6; s++) {
            d.due("GONE of " + s, x.says(s, 0), gone[s]);
        }
        d.due("worn at", x.says(1, 1), 2);
        d.due("THIN bears", x.says(2, 2), 2);
        d.due("BLANK as THIN", x.says(4, 2), 0);
        d.due("BLANK", x.says(4, 4), 0);
        d.due("WARDED", x.says(3, 3), 2);
        d.due("MASTER as WARDED", x.says(5, 3), 2);
        // key 0 opens lock 1; 1 opens lock 1 by being worn at place 2; 2 and 4 none; 3 all; 5 all.
        d.due("opened(5)", x.opened(5), 7);
        d.due("MASTER", x.says(5, 5), 5);
        x.ask(2, 1);
        d.due("MASTER, others broken", x.says(5, 5), 5);
        x.file(5, 0);
        d.due("a broken MASTER opens none", x.says(5, 3), 0);
        x.ask(2, 5);
        int[][] no = {{0, 1}, {0, 2}, {0, 3}, {0, 4}, {0, 5}, {1, 2}, {1, 3}, {2, 1}, {2, 4}, {3, 5}, {3, 2},
            {4, 3}, {4, 5}, {5, 1}, {5, 2}, {5, 4}};
        for (int[] pair : no) {
            d.due("key " + pair[0] + " is no " + pair[1], x.says(pair[0], pair[1]), OTHER);
        }
        d.due("nothing", x.says(6, 0), NOTHING);
        x.row(6, 0, 1);
        d.due("a row", x.says(6, 0), OTHER);
        d.due("kind 6", x.says(7, 6), BAD);
        d.due("kind -1", x.says(7, -1), BAD);
        d.due("shelf 8", x.says(8, 0), BAD);
        d.due("shelf -1", x.says(-1, 0), BAD);
    }

    private static void image() {
        d.promise("49 image");
        CutDeeper x = Due.of("key 0 0;lock;may 0 0");
        d.due("image", x.image(), 1);
        x.file(0, 1);
        x.seed(77);
        x.ask(2, 3);
        d.due("image again", x.image(), 1);
        x.file(0, 1);
        x.back();
        d.due("the later one", x.keyOf(0, 11), 1);
        d.due("coins", x.status(5), 1);
        d.due("seed", x.status(9), 77);
        d.due("strength", x.status(4), 3);
    }

    private static void back() {
        d.promise("50 back");
        CutDeeper x = new CutDeeper();
        d.due("nothing kept", x.back(), STUCK);
        Due.read(x, "places 2;deep 2;strength 4;key 1 3 cut 1 0;lock asks 0 1 ward;may 0 0");
        x.image();
        Due.read(x, "key 5 0;lock asks 2 2");
        x.asks(0, 0, 2);
        x.may(0, 0, false);
        x.file(0, 0);
        x.seed(9);
        x.ask(2, 20);
        x.show(0, 0);
        x.show(1, 1);
        Due.tell(x, 2, 5);
        x.feed(65);
        x.may(9, 9, true);
        d.due("back", x.back(), 1);
        int[] want = {1, 1, 2, 2, 4, 0, 0, 1, 1, 1, 2};
        for (int what = 0; what < want.length; what++) {
            d.due("status(" + what + ")", x.status(what), want[what]);
        }
        d.due("BAD still counted", x.status(12), 1);
        d.due("STUCK still counted", x.status(15), 1);
        d.due("holds(0)", x.holds(0), 10);
        d.due("holds(1)", x.holds(1), -1);
        d.due("element", x.element(2, 0), 5);
        d.due("cut", x.keyOf(0, 10), 1);
        d.due("kind", x.keyOf(0, 0), 1);
        d.due("a", x.keyOf(0, 1), 3);
        d.due("may", x.keyOf(0, 4), 1);
        d.due("asks", x.lockOf(0, 10), 0);
        d.due("asks", x.lockOf(0, 11), 1);
        d.due("fits by it", x.opens(0, 0, 0), 1);
        x.file(0, 0);
        d.due("back once more", x.back(), 1);
        d.due("cut", x.keyOf(0, 10), 1);
        d.due("a new lock is as new", x.lock(false), 1);
        d.due("asks nothing", x.lockOf(1, 1), 0);
        d.due("no ward", x.lockOf(1, 0), 0);
        d.due("is open", x.opens(0, 1, 1), 1);
        d.due("a new key is as new", x.key(0, 0), 1);
        d.due("uncut", x.keyOf(1, 2), 0);
        x.may(1, 0, true);
        x.back();
        x.key(0, 0);
        d.due("may none", x.keyOf(1, 4), 0);
    }

    private static void status() {
        d.promise("51 status");
        CutDeeper x = Due.of("places 2;deep 4;strength 7;key 0 0 cut 4 4;key 2 3 cut 4 0;key 4 3 cut 4 1;"
            + "lock ward;lock;lock ward");
        x.file(1, 1);
        x.file(1, 1);
        x.show(3, 1);
        x.row(4, 0, 0);
        x.feed(7);
        x.feed(8);
        x.seed(-5);
        int[] want = {3, 3, 2, 4, 7, 3, 7, 5, 2, -5, 2, -1};
        for (int what = 0; what < want.length; what++) {
            d.due("status(" + what + ")", x.status(what), want[what]);
        }
        d.due("status(-1)", x.status(-1), -1);
        d.due("status(17)", x.status(17), -1);
        d.due("status(largest)", x.status(Integer.MAX_VALUE), -1);
        d.due("status(smallest)", x.status(Integer.MIN_VALUE), -1);
        x.ask(2, 8);
        d.due("less broken", x.status(6), 2);
    }

    private static void refusals() {
        d.promise("51 status, refusals");
        CutDeeper x = Due.of("key 4 0;lock");
        x.opened(1);
        x.opened(-1);
        Due.read(x, "lock;");
        x.row(0, 0, 0);
        x.says(0, 0);
        x.judge(1);
        x.judge(1);
        x.file(0, 0);
        x.renew(0);
        x.back();
        x.pair();
        for (int i = 0; i < 12; i++) {
            x.lock(false);
        }
        d.due("BAD", x.status(12), 3);
        d.due("OTHER", x.status(13), 1);
        d.due("NOTHING", x.status(14), 2);
        d.due("STUCK", x.status(15), 4);
        d.due("FULL", x.status(16), 5);
        x.cuts(0, -1);
        x.toOpen(0, 0);
        x.alike();
        d.due("NONE isn't refused", x.status(12) + x.status(15), 7);
    }
}
