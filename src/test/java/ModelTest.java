import java.util.Random;

/** Long runs of calls, the same ones on the program and on Naive: no answer may differ. */
public final class ModelTest {
    private static final Due d = new Due();
    private static final int MOST_CALLS = 512;
    private static final String[] NAMES = {"row", "set", "set", "set", "copy", "element", "holds", "show", "says", "says", "ask",
        "key", "lock", "asks", "asks", "asks", "may", "may", "file", "file", "feed", "wipe", "house", "keyOf", "lockOf",
        "opens", "opened", "who", "wrong", "wrongs", "judge", "list", "cuts", "asked", "toOpen", "safe", "safest",
        "mended", "left", "idle", "together", "pair", "unlike", "alike", "over", "chain", "ward", "found", "found",
        "many", "use", "days", "renew", "mend", "seed", "image", "back", "status"};

    private final Random random;
    private final CutDeeper x = new CutDeeper();
    private final Naive naive = new Naive();
    private int n = 3;
    private int deep = 3;
    private int calls = 0;

    private ModelTest(long seed) {
        random = new Random(seed);
    }

    public static void main(String[] args) {
        for (int run = 0; run < 400; run++) {
            d.promise("run " + run);
            new ModelTest(run).play();
        }
        d.end();
    }

    private void play() {
        feedHouse();
        call("house");
        populate();
        for (int i = 0; i < 120; i++) {
            n = naive.s.n;
            deep = naive.s.deep;
            String name = NAMES[random.nextInt(NAMES.length)];
            if (name.equals("mend") && random.nextInt(3) > 0) {
                name = "file";
            }
            if (name.equals("house")) {
                feedHouse();
            }
            call(name, arguments(name));
        }
        for (int what = -1; what <= 17; what++) {
            call("status", what);
        }
    }

    /** So that most calls find something. */
    private void populate() {
        n = naive.s.n;
        deep = naive.s.deep;
        for (int i = random.nextInt(6); i >= 0; i--) {
            call("key", random.nextInt(6), random.nextInt(10));
        }
        for (int i = random.nextInt(6); i >= 0; i--) {
            call("lock", random.nextInt(4) == 0 ? 1 : 0);
        }
        for (int i = 0; i < 10; i++) {
            call("asks", random.nextInt(naive.s.locks.size()), random.nextInt(n), random.nextInt(deep + 1));
            call("file", random.nextInt(naive.s.keys.size()), random.nextInt(n));
        }
        for (int s = 0; s < 4; s++) {
            call("row", s, random.nextInt(5), 6);
            for (int i = 0; i < 6; i++) {
                call("set", s, i, random.nextInt(deep + 1));
            }
        }
        for (int s = 2; s < 6; s++) {
            call("show", s, random.nextInt(naive.s.keys.size()));
        }
        call("ask", 2, 1 + random.nextInt(8));
        call("image");
    }

    /** What an object answers after its 512th call is free. */
    private void call(String name, long... v) {
        if (calls == MOST_CALLS) {
            return;
        }
        calls++;
        StringBuilder told = new StringBuilder(name);
        for (long a : v) {
            told.append(' ').append(a);
        }
        long want = name.equals("opens") ? wantOpens(v) : naive.call(name, v);
        d.due(told.toString(), ask(name, v), want);
    }

    private long wantOpens(long[] v) {
        boolean good = naive.isKey((int) v[0]) && naive.isLock((int) v[1]) && v[2] >= 0 && v[2] <= 1;
        if (!good) {
            naive.refused[2]++;
            return -2;
        }
        Naive.K k = naive.s.keys.get((int) v[0]);
        Naive.L l = naive.s.locks.get((int) v[1]);
        return (v[2] == 0 ? naive.fits(k, l) : naive.open(k, l)) ? 1 : 0;
    }

    private void feedHouse() {
        StringBuilder text = new StringBuilder();
        if (random.nextInt(2) == 0) {
            text.append("places ").append(1 + random.nextInt(4)).append(";");
        }
        if (random.nextInt(2) == 0) {
            text.append("deep ").append(1 + random.nextInt(4)).append(";");
        }
        if (random.nextInt(2) == 0) {
            text.append("strength ").append(1 + random.nextInt(12)).append(";");
        }
        int places = text.indexOf("places") >= 0 ? text.charAt(7) - '0' : n;
        int most = text.indexOf("deep") >= 0 ? text.charAt(text.indexOf("deep") + 5) - '0' : deep;
        int count = random.nextInt(8);
        for (int i = 0; i < count; i++) {
            int sort = random.nextInt(5);
            if (sort < 2) {
                text.append("key ").append(random.nextInt(6)).append(' ').append(random.nextInt(10));
                row(text, " cut", places, most);
            } else if (sort < 4) {
                text.append("lock");
                row(text, " asks", places, most);
                text.append(random.nextInt(4) == 0 ? " ward" : "");
            } else {
                text.append("may ").append(random.nextInt(3)).append(' ').append(random.nextInt(3));
            }
            text.append(i < count - 1 ? ";" : "");
        }
        spoil(text);
        for (int i = 0; i < text.length(); i++) {
            call("feed", text.charAt(i));
        }
    }

    private void row(StringBuilder text, String word, int places, int most) {
        if (random.nextInt(3) == 0) {
            return;
        }
        text.append(word);
        for (int p = 0; p < places; p++) {
            text.append(' ').append(random.nextInt(most + 1) * random.nextInt(2));
        }
    }

    private void spoil(StringBuilder text) {
        if (text.length() == 0 || random.nextInt(3) > 0) {
            return;
        }
        int at = random.nextInt(text.length());
        String letters = " ;0123456789keyloc!\u00ff\u0000 ";
        char c = letters.charAt(random.nextInt(letters.length()));
        switch (random.nextInt(3)) {
            case 0:
                text.setCharAt(at, c);
                break;
            case 1:
                text.insert(at, c);
                break;
            default:
                text.deleteCharAt(at);
        }
    }

    private int key() {
        return number(naive.s.keys.size());
    }

    private int lock() {
        return number(naive.s.locks.size());
    }

    private int place() {
        return number(n);
    }

    /** A number below, but seldom one that may not be. */
    private int number(int below) {
        int wild = random.nextInt(30);
        if (wild == 0) {
            return -1;
        }
        if (wild == 1) {
            return below;
        }
        if (wild == 2) {
            return random.nextInt();
        }
        return below > 0 ? random.nextInt(below) : 0;
    }

    private int bits(int of) {
        return random.nextInt(12) == 0 ? random.nextInt() : random.nextInt(1 << of);
    }

    private long[] arguments(String name) {
        int few = random.nextInt(4);
        switch (name) {
            case "row":
                return new long[] {few, number(5), number(41) % 12};
            case "set":
                return new long[] {few, number(6), random.nextBoolean() ? random.nextInt(5) : random.nextLong()};
            case "copy":
                return new long[] {few, random.nextInt(9), number(4), number(4), number(4)};
            case "element":
                return new long[] {few, number(6)};
            case "holds":
                return new long[] {number(8)};
            case "show":
                return new long[] {2 + number(4), key()};
            case "says":
                return new long[] {2 + number(4), number(6)};
            case "ask":
                return new long[] {number(3), random.nextInt(8)};
            case "key":
                return new long[] {number(6), number(10)};
            case "lock":
                return new long[] {few == 0 ? 1 : 0};
            case "asks":
                return new long[] {lock(), place(), number(deep + 1)};
            case "may":
                return new long[] {key(), lock(), few % 2};
            case "file":
                return new long[] {key(), place()};
            case "feed":
                return new long[] {number(256)};
            case "keyOf":
            case "lockOf":
                return new long[] {name.equals("keyOf") ? key() : lock(), random.nextInt(28) - 1};
            case "opens":
                return new long[] {key(), lock(), number(2)};
            case "cuts":
                return new long[] {bits(naive.s.locks.size()), random.nextInt(3) == 0 ? -1 : place()};
            case "asked":
                return new long[] {bits(naive.s.keys.size()), random.nextInt(3) == 0 ? -1 : place()};
            case "many":
                return new long[] {bits(naive.s.locks.size())};
            case "found":
                return new long[] {few, bits(naive.s.locks.size()) & bits(naive.s.locks.size())};
            case "toOpen":
            case "use":
                return new long[] {key(), lock()};
            case "together":
                return new long[] {key(), key()};
            case "safe":
            case "who":
            case "ward":
                return new long[] {lock()};
            case "opened":
            case "left":
            case "over":
            case "renew":
                return new long[] {key()};
            case "judge":
            case "list":
                return new long[] {few};
            case "mended":
                return new long[] {number(2)};
            case "idle":
                return new long[] {place()};
            case "days":
                return new long[] {number(41)};
            case "seed":
                return new long[] {random.nextInt()};
            case "status":
                return new long[] {random.nextInt(20) - 1};
            default:
                return new long[0];
        }
    }

    private long ask(String name, long[] v) {
        int a = v.length > 0 ? (int) v[0] : 0;
        int b = v.length > 1 ? (int) v[1] : 0;
        int c = v.length > 2 ? (int) v[2] : 0;
        return switch (name) {
            case "row" -> x.row(a, b, c);
            case "set" -> x.set(a, b, v[2]);
            case "copy" -> x.copy(a, b, c, (int) v[3], (int) v[4]);
            case "element" -> x.element(a, b);
            case "holds" -> x.holds(a);
            case "show" -> x.show(a, b);
            case "says" -> x.says(a, b);
            case "ask" -> x.ask(a, b);
            case "key" -> x.key(a, b);
            case "lock" -> x.lock(a != 0);
            case "asks" -> x.asks(a, b, c);
            case "may" -> x.may(a, b, c != 0);
            case "file" -> x.file(a, b);
            case "feed" -> x.feed(a);
            case "wipe" -> x.wipe();
            case "house" -> x.house();
            case "keyOf" -> x.keyOf(a, b);
            case "lockOf" -> x.lockOf(a, b);
            case "opens" -> x.opens(a, b, c);
            case "opened" -> x.opened(a);
            case "who" -> x.who(a);
            case "wrong" -> x.wrong();
            case "wrongs" -> x.wrongs();
            case "judge" -> x.judge(a);
            case "list" -> x.list(a);
            case "cuts" -> x.cuts(a, b);
            case "asked" -> x.asked(a, b);
            case "toOpen" -> x.toOpen(a, b);
            case "safe" -> x.safe(a);
            case "safest" -> x.safest();
            case "mended" -> x.mended(a);
            case "left" -> x.left(a);
            case "idle" -> x.idle(a);
            case "together" -> x.together(a, b);
            case "pair" -> x.pair();
            case "unlike" -> x.unlike();
            case "alike" -> x.alike();
            case "over" -> x.over(a);
            case "chain" -> x.chain();
            case "ward" -> x.ward(a);
            case "found" -> x.found(a, b);
            case "many" -> x.many(a);
            case "use" -> x.use(a, b);
            case "days" -> x.days(a);
            case "renew" -> x.renew(a);
            case "mend" -> x.mend();
            case "seed" -> x.seed(a);
            case "image" -> x.image();
            case "back" -> x.back();
            default -> x.status(a);
        };
    }
}
