import java.util.ArrayList;
import java.util.List;

/** The document once more, by trying all that there is: slow, and nothing like the program. */
final class Naive {
    static final class Refused extends RuntimeException {
        private static final long serialVersionUID = 1L;
        final int number;

        Refused(int number) {
            super(null, null, false, false);
            this.number = number;
        }
    }

    static final class K {
        int kind, a, may;
        List<Integer> cut = new ArrayList<>();

        K copy() {
            K k = new K();
            k.kind = kind;
            k.a = a;
            k.may = may;
            k.cut = new ArrayList<>(cut);
            return k;
        }
    }

    static final class L {
        boolean ward;
        List<Integer> asks = new ArrayList<>();

        L copy() {
            L l = new L();
            l.ward = ward;
            l.asks = new ArrayList<>(asks);
            return l;
        }
    }

    static final class S {
        int n = 3, deep = 3, strength = 12, coins = 0, seed = 1;
        List<K> keys = new ArrayList<>();
        List<L> locks = new ArrayList<>();

        S copy() {
            S s = new S();
            s.n = n;
            s.deep = deep;
            s.strength = strength;
            s.coins = coins;
            s.seed = seed;
            for (K k : keys) s.keys.add(k.copy());
            for (L l : locks) s.locks.add(l.copy());
            return s;
        }
    }

    S s = new S();
    S kept = null;
    String tape = "";
    Object[] shelf = new Object[8];
    int[] sorts = new int[8];
    int[] refused = new int[7];

    static void want(boolean ok, int number) {
        if (!ok) throw new Refused(number);
    }

    List<Integer> zero() {
        List<Integer> r = new ArrayList<>();
        for (int i = 0; i < s.n; i++) r.add(0);
        return r;
    }

    List<List<Integer>> all() {
        List<List<Integer>> rows = new ArrayList<>();
        rows.add(new ArrayList<>());
        for (int p = 0; p < s.n; p++) {
            List<List<Integer>> more = new ArrayList<>();
            for (List<Integer> r : rows) {
                for (int v = 0; v <= s.deep; v++) {
                    List<Integer> t = new ArrayList<>(r);
                    t.add(v);
                    more.add(t);
                }
            }
            rows = more;
        }
        return rows;
    }

    static int sum(List<Integer> r) {
        return r.stream().mapToInt(v -> v).sum();
    }

    int depth(K k, int p) {
        int v = k.cut.get(p);
        if (k.kind == 1 && k.a % s.n == p) v = Math.min(s.deep, v + 1);
        return v;
    }

    int limit(K k) {
        return k.kind == 2 || k.kind == 4 ? Math.max(0, s.strength - k.a) : s.strength;
    }

    boolean broken(K k) {
        return sum(k.cut) > limit(k);
    }

    boolean fits(K k, L l) {
        for (int p = 0; p < s.n; p++) if (depth(k, p) < l.asks.get(p)) return false;
        return true;
    }

    boolean open(K k, L l) {
        if (broken(k)) return false;
        if (fits(k, l) && (!l.ward || k.kind == 3 || k.kind == 5)) return true;
        if (k.kind != 5) return false;
        for (K o : s.keys) if (o.kind == 0 && open(o, l)) return true;
        return false;
    }

    int opened(K k) {
        int b = 0;
        for (int l = 0; l < s.locks.size(); l++) if (open(k, s.locks.get(l))) b |= 1 << l;
        return b;
    }

    static boolean atLeast(List<Integer> a, List<Integer> b) {
        for (int i = 0; i < a.size(); i++) if (a.get(i) < b.get(i)) return false;
        return true;
    }

    int price(List<Integer> from, List<Integer> to) {
        int c = 0;
        for (int i = 0; i < from.size(); i++) {
            for (int v = from.get(i); v < to.get(i); ) {
                v++;
                c += v;
            }
        }
        return c;
    }

    List<List<Integer>> filings(K k) {
        List<List<Integer>> rows = new ArrayList<>();
        for (List<Integer> r : all()) if (atLeast(r, k.cut) && (k.kind != 4 || r.equals(k.cut))) rows.add(r);
        return rows;
    }

    int toOpen(int key, int lock) {
        K k = s.keys.get(key);
        List<Integer> was = k.cut;
        int best = -1;
        for (List<Integer> r : filings(k)) {
            k.cut = r;
            if (open(k, s.locks.get(lock))) {
                int c = price(was, r);
                if (best < 0 || c < best) best = c;
            }
        }
        k.cut = was;
        return best;
    }

    List<Integer> mended(int key) {
        K k = s.keys.get(key);
        List<Integer> was = k.cut;
        List<Integer> best = null;
        for (List<Integer> r : filings(k)) {
            k.cut = r;
            if (opened(k) == k.may && (best == null || price(was, r) < price(was, best))) best = r;
        }
        k.cut = was;
        return best;
    }

    boolean isKey(int k) {
        return k >= 0 && k < s.keys.size();
    }

    boolean isLock(int l) {
        return l >= 0 && l < s.locks.size();
    }

    boolean isPlace(int p) {
        return p >= 0 && p < s.n;
    }

    static boolean isShelf(int i) {
        return i >= 0 && i < 8;
    }

    static boolean isSet(int bits, int of) {
        for (int i = 0; i < 32; i++) if ((bits >>> i & 1) == 1 && i >= of) return false;
        return true;
    }

    long[] wantRow(int i) {
        want(!(shelf[i] instanceof K), -3);
        want(shelf[i] != null, -4);
        return (long[]) shelf[i];
    }

    int draw(int n) {
        seedOn();
        return (s.seed >>> 16) % n;
    }

    void seedOn() {
        s.seed = s.seed * 1103515245 + 12345;
    }

    boolean wear(K k) {
        if (draw(4) != 0) return false;
        int p = draw(s.n);
        if (k.cut.get(p) >= s.deep) return false;
        k.cut.set(p, k.cut.get(p) + 1);
        return true;
    }

    List<Integer> bestCuts(int locks) {
        List<Integer> best = null;
        for (List<Integer> r : all()) {
            K k = new K();
            k.cut = r;
            int b = 0;
            for (int l = 0; l < s.locks.size(); l++) if (fits(k, s.locks.get(l))) b |= 1 << l;
            if (b == locks && (best == null || sum(r) < sum(best))) best = r;
        }
        return best;
    }

    int manyCuts(int locks) {
        int n = 0;
        for (List<Integer> r : all()) {
            K k = new K();
            k.cut = r;
            int b = 0;
            for (int l = 0; l < s.locks.size(); l++) if (fits(k, s.locks.get(l))) b |= 1 << l;
            if (b == locks) n++;
        }
        return n;
    }

    List<Integer> bestAsks(int keys) {
        List<Integer> best = null;
        for (List<Integer> r : all()) {
            L l = new L();
            l.asks = r;
            int b = 0;
            for (int k = 0; k < s.keys.size(); k++) if (fits(s.keys.get(k), l)) b |= 1 << k;
            if (b == keys && (best == null || sum(r) < sum(best))) best = r;
        }
        return best;
    }

    int together(int i, int j) {
        K k = new K();
        k.cut = zero();
        for (int p = 0; p < s.n; p++) k.cut.set(p, Math.max(s.keys.get(i).cut.get(p), s.keys.get(j).cut.get(p)));
        return opened(k);
    }

    int over(int key) {
        int mine = opened(s.keys.get(key));
        int b = 0;
        for (int k = 0; k < s.keys.size(); k++) {
            if (k != key && (opened(s.keys.get(k)) | mine) == opened(s.keys.get(k))) b |= 1 << k;
        }
        return b;
    }

    int chainFrom(int key) {
        int mine = opened(s.keys.get(key));
        int best = 1;
        for (int k = 0; k < s.keys.size(); k++) {
            int his = opened(s.keys.get(k));
            if (his != mine && (his | mine) == mine) best = Math.max(best, 1 + chainFrom(k));
        }
        return best;
    }

    int openPairs() {
        int n = 0;
        for (K k : s.keys) n += Integer.bitCount(opened(k));
        return n;
    }

    K newKey(S to, int kind, int a) {
        K k = new K();
        k.kind = kind;
        k.a = a;
        for (int i = 0; i < to.n; i++) k.cut.add(0);
        to.keys.add(k);
        return k;
    }

    L newLock(S to, boolean ward) {
        L l = new L();
        l.ward = ward;
        for (int i = 0; i < to.n; i++) l.asks.add(0);
        to.locks.add(l);
        return l;
    }

    // Reading: tokens first, then statements by a cursor; a fault is an exception.
    static final class Fault extends RuntimeException {
        private static final long serialVersionUID = 1L;
        final int place;

        Fault(int place) {
            super(null, null, false, false);
            this.place = place;
        }
    }

    List<String> tokens;
    List<Integer> places;
    int cursor;

    void split(String t) {
        tokens = new ArrayList<>();
        places = new ArrayList<>();
        java.util.regex.Matcher m = java.util.regex.Pattern.compile("[a-z]+|[0-9]+|[^ ]").matcher(t);
        while (m.find()) {
            tokens.add(m.group());
            places.add(m.start());
        }
        places.add(t.length());
        cursor = 0;
    }

    String peek() {
        return cursor < tokens.size() ? tokens.get(cursor) : "";
    }

    Fault fault() {
        return new Fault(places.get(cursor));
    }

    int number(int low, int high) {
        String t = peek();
        if (!t.matches("[0-9]{1,2}") || Integer.parseInt(t) < low || Integer.parseInt(t) > high) throw fault();
        cursor++;
        return Integer.parseInt(t);
    }

    boolean skip(String w) {
        if (!peek().equals(w)) return false;
        cursor++;
        return true;
    }

    int readAll(S to) {
        int count = 0;
        do {
            statement(to);
            count++;
        } while (skip(";"));
        if (cursor < tokens.size()) throw fault();
        return count;
    }

    void statement(S to) {
        String w = peek();
        boolean empty = to.keys.isEmpty() && to.locks.isEmpty();
        if (w.equals("places") && empty) {
            cursor++;
            to.n = number(1, 5);
        } else if (w.equals("deep") && empty) {
            cursor++;
            to.deep = number(1, 4);
        } else if (w.equals("strength")) {
            cursor++;
            to.strength = number(1, 20);
        } else if (w.equals("key") && to.keys.size() < 6) {
            cursor++;
            int kind = number(0, 5);
            K k = newKey(to, kind, number(0, 9));
            if (skip("cut")) for (int p = 0; p < to.n; p++) k.cut.set(p, number(0, to.deep));
        } else if (w.equals("lock") && to.locks.size() < 8) {
            cursor++;
            L l = newLock(to, false);
            if (skip("asks")) for (int p = 0; p < to.n; p++) l.asks.set(p, number(0, to.deep));
            if (skip("ward")) l.ward = true;
        } else if (w.equals("may")) {
            cursor++;
            int k = number(0, to.keys.size() - 1);
            int l = number(0, to.locks.size() - 1);
            to.keys.get(k).may |= 1 << l;
        } else {
            throw fault();
        }
    }

    int house() {
        S to = s.copy();
        split(tape);
        tape = "";
        try {
            int n = readAll(to);
            s = to;
            return n;
        } catch (Fault f) {
            refused[2]++;
            return -20 - f.place;
        }
    }

    long call(String name, long[] v) {
        try {
            return answer(name, v);
        } catch (Refused r) {
            refused[-r.number]++;
            return r.number;
        }
    }

    private long answer(String name, long[] v) {
        int x = v.length > 0 ? (int) v[0] : 0;
        int y = v.length > 1 ? (int) v[1] : 0;
        int z = v.length > 2 ? (int) v[2] : 0;
        switch (name) {
            case "row":
                want(isShelf(x) && y >= 0 && y <= 4 && z >= 0 && z <= 40, -2);
                shelf[x] = new long[z];
                sorts[x] = y;
                return 1;
            case "set": {
                want(isShelf(x), -2);
                long[] r = wantRow(x);
                want(y >= 0 && y < r.length, -2);
                r[y] = switch (sorts[x]) {
                    case 0 -> (byte) v[2];
                    case 1 -> (short) v[2];
                    case 2 -> (int) v[2];
                    case 3 -> v[2];
                    default -> v[2] == 0 ? 0 : 1;
                };
                return 1;
            }
            case "copy": {
                want(isShelf(x) && isShelf(y), -2);
                want(!(shelf[x] instanceof K) && !(shelf[y] instanceof K), -3);
                want(shelf[x] == null || shelf[y] == null || sorts[x] == sorts[y], -3);
                want(shelf[x] != null && shelf[y] != null, -4);
                long[] p = (long[]) shelf[x];
                long[] q = (long[]) shelf[y];
                want(v[2] >= 0 && v[3] >= 0 && v[4] >= 0 && v[2] + v[4] <= p.length && v[3] + v[4] <= q.length, -2);
                long[] was = p.clone();
                for (int i = 0; i < v[4]; i++) q[(int) v[3] + i] = was[z + i];
                return v[4];
            }
            case "element":
                if (!isShelf(x) || !(shelf[x] instanceof long[] r) || y < 0 || y >= r.length) return 0;
                return r[y];
            case "holds":
                if (!isShelf(x) || shelf[x] == null) return -1;
                return shelf[x] instanceof K ? 10 + sorts[x] : sorts[x];
            case "show":
                want(isShelf(x) && (y == -1 || isKey(y)), -2);
                shelf[x] = y == -1 ? null : new K();
                sorts[x] = y;
                return 1;
            case "says": {
                want(isShelf(x) && y >= 0 && y <= 5, -2);
                want(!(shelf[x] instanceof long[]), -3);
                want(shelf[x] != null, -4);
                K k = s.keys.get(sorts[x]);
                int[] under = {-1, 0, 0, 0, 2, 3};
                boolean of = false;
                for (int up = k.kind; up >= 0; up = under[up]) of |= up == y;
                want(of, -3);
                int n = 0;
                switch (y) {
                    case 0:
                        return sum(k.cut);
                    case 1:
                        return k.a % s.n;
                    case 3:
                        for (L l : s.locks) n += l.ward && open(k, l) ? 1 : 0;
                        return n;
                    case 5:
                        for (int o = 0; o < s.keys.size(); o++) n += over(o) >> sorts[x] & 1;
                        return n;
                    default:
                        return limit(k);
                }
            }
            case "ask": {
                int[] most = {5, 4, 20};
                want(x >= 0 && x <= 2 && y >= 1 && y <= most[x], -2);
                want(x == 2 || s.keys.isEmpty() && s.locks.isEmpty(), -5);
                int was = x == 0 ? s.n : x == 1 ? s.deep : s.strength;
                if (x == 0) s.n = y;
                if (x == 1) s.deep = y;
                if (x == 2) s.strength = y;
                return was;
            }
            case "key":
                want(x >= 0 && x <= 5 && y >= 0 && y <= 9, -2);
                want(s.keys.size() < 6, -6);
                newKey(s, x, y);
                return s.keys.size() - 1;
            case "lock":
                want(s.locks.size() < 8, -6);
                newLock(s, x != 0);
                return s.locks.size() - 1;
            case "asks":
                want(isLock(x) && isPlace(y) && z >= 0 && z <= s.deep, -2);
                return s.locks.get(x).asks.set(y, z);
            case "may": {
                want(isKey(x) && isLock(y), -2);
                int was = s.keys.get(x).may;
                s.keys.get(x).may = z != 0 ? was | 1 << y : was & ~(1 << y);
                return was == s.keys.get(x).may ? 0 : 1;
            }
            case "file": {
                want(isKey(x) && isPlace(y), -2);
                K k = s.keys.get(x);
                want(k.kind != 4 && k.cut.get(y) < s.deep, -5);
                k.cut.set(y, k.cut.get(y) + 1);
                s.coins += k.cut.get(y);
                return k.cut.get(y);
            }
            case "feed":
                want(x >= 0 && x <= 255, -2);
                want(tape.length() < 250, -6);
                tape += (char) x;
                return tape.length();
            case "wipe": {
                int was = tape.length();
                tape = "";
                return was;
            }
            case "house":
                return house();
            default:
                return answerOf(name, x, y);
        }
    }

    private long answerOf(String name, int x, int y) {
        switch (name) {
            case "keyOf": {
                want(isKey(x), -2);
                K k = s.keys.get(x);
                if (y >= 10 && y < 10 + s.n) return k.cut.get(y - 10);
                if (y >= 20 && y < 20 + s.n) return depth(k, y - 20);
                want(y >= 0 && y <= 4, -2);
                return new int[] {k.kind, k.a, sum(k.cut), broken(k) ? 1 : 0, k.may}[y];
            }
            case "lockOf": {
                want(isLock(x), -2);
                L l = s.locks.get(x);
                if (y >= 10 && y < 10 + s.n) return l.asks.get(y - 10);
                want(y >= 0 && y <= 1, -2);
                return y == 0 ? l.ward ? 1 : 0 : sum(l.asks);
            }
            case "opened":
                want(isKey(x), -2);
                return opened(s.keys.get(x));
            case "who": {
                want(isLock(x), -2);
                int b = 0;
                for (int k = 0; k < s.keys.size(); k++) b |= open(s.keys.get(k), s.locks.get(x)) ? 1 << k : 0;
                return b;
            }
            case "wrong":
            case "wrongs": {
                int first = -1;
                int n = 0;
                for (int k = 0; k < s.keys.size(); k++) {
                    for (int l = 0; l < s.locks.size(); l++) {
                        if (open(s.keys.get(k), s.locks.get(l)) == ((s.keys.get(k).may >> l & 1) == 1)) continue;
                        n++;
                        if (first < 0) first = 10 * k + l;
                    }
                }
                return name.equals("wrong") ? first : n;
            }
            case "judge":
            case "list": {
                want(isShelf(x), -2);
                long[] r = wantRow(x);
                want(r.length >= s.keys.size(), -2);
                int first = -1;
                for (int k = s.keys.size() - 1; k >= 0; k--) {
                    int told = 0;
                    for (int l = 0; l < s.locks.size(); l++) told |= (r[k] >> l & 1) == 1 ? 1 << l : 0;
                    if (told != opened(s.keys.get(k))) first = k;
                    if (name.equals("list")) s.keys.get(k).may = told;
                }
                return name.equals("list") ? s.keys.size() : first;
            }
            case "cuts":
            case "asked": {
                boolean cuts = name.equals("cuts");
                want(isSet(x, cuts ? s.locks.size() : s.keys.size()) && (y == -1 || isPlace(y)), -2);
                List<Integer> best = cuts ? bestCuts(x) : bestAsks(x);
                return best == null ? -1 : y == -1 ? sum(best) : best.get(y);
            }
            case "many":
                want(isSet(x, s.locks.size()), -2);
                return manyCuts(x);
            case "toOpen":
                want(isKey(x) && isLock(y), -2);
                return toOpen(x, y);
            case "safe":
                want(isLock(x), -2);
                return safe(x);
            case "safest": {
                int best = -1;
                for (int l = s.locks.size() - 1; l >= 0; l--) {
                    if (best < 0 || Integer.bitCount(safe(l)) >= Integer.bitCount(safe(best))) best = l;
                }
                return best;
            }
            case "mended":
                want(x == 0 || x == 1, -2);
                return mending(x, false);
            case "mend": {
                int c = mending(0, true);
                s.coins += c;
                return c;
            }
            case "left": {
                want(isKey(x), -2);
                K k = s.keys.get(x);
                return broken(k) ? 0 : limit(k) - sum(k.cut);
            }
            case "idle": {
                want(isPlace(x), -2);
                int n = 0;
                for (L l : s.locks) n += l.asks.get(x) == 0 ? 1 : 0;
                return n;
            }
            case "together":
                want(isKey(x) && isKey(y) && x != y, -2);
                return together(x, y);
            case "pair": {
                want(s.keys.size() >= 2, -5);
                int best = -1;
                int most = -1;
                for (int i = 0; i < s.keys.size(); i++) {
                    for (int j = i + 1; j < s.keys.size(); j++) {
                        int n = Integer.bitCount(together(i, j));
                        if (n > most) {
                            most = n;
                            best = 10 * i + j;
                        }
                    }
                }
                return best;
            }
            default:
                return answerMore(name, x, y);
        }
    }

    private long answerMore(String name, int x, int y) {
        switch (name) {
            case "unlike": {
                int n = 0;
                for (List<Integer> r : all()) n += sum(r) == s.n * s.deep / 2 ? 1 : 0;
                return n;
            }
            case "alike":
                for (int i = 0; i < s.locks.size(); i++) {
                    for (int j = 0; j < s.locks.size(); j++) {
                        if (i != j && atLeast(s.locks.get(i).asks, s.locks.get(j).asks)) return 10 * i + j;
                    }
                }
                return -1;
            case "over":
                want(isKey(x), -2);
                return over(x);
            case "chain": {
                int best = 0;
                for (int k = 0; k < s.keys.size(); k++) best = Math.max(best, chainFrom(k));
                return best;
            }
            case "ward": {
                want(isLock(x), -2);
                want(!s.locks.get(x).ward, -5);
                int was = openPairs();
                s.locks.get(x).ward = true;
                int now = openPairs();
                s.locks.get(x).ward = false;
                return was - now;
            }
            case "found": {
                want(isShelf(x) && isSet(y, s.locks.size()), -2);
                long[] r = wantRow(x);
                want(r.length >= s.n, -2);
                List<Integer> told = new ArrayList<>();
                for (int p = 0; p < s.n; p++) {
                    want(r[p] >= 0 && r[p] <= s.deep, -2);
                    told.add((int) r[p]);
                }
                int b = 0;
                for (int i = 0; i < s.keys.size(); i++) {
                    K k = s.keys.get(i);
                    if (!filings(k).contains(told)) continue;
                    List<Integer> was = k.cut;
                    k.cut = told;
                    if ((opened(k) & y) == y) b |= 1 << i;
                    k.cut = was;
                }
                return b;
            }
            case "use":
                want(isKey(x) && isLock(y), -2);
                want(open(s.keys.get(x), s.locks.get(y)), -5);
                return wear(s.keys.get(x)) ? 1 : 0;
            case "days": {
                want(x >= 1 && x <= 40, -2);
                want(!s.keys.isEmpty() && !s.locks.isEmpty(), -5);
                int n = 0;
                for (int i = 0; i < x; i++) {
                    K k = s.keys.get(draw(s.keys.size()));
                    L l = s.locks.get(draw(s.locks.size()));
                    if (!open(k, l)) continue;
                    n++;
                    wear(k);
                }
                return n;
            }
            case "renew": {
                want(isKey(x), -2);
                K k = s.keys.get(x);
                want(broken(k), -5);
                int was = k.kind;
                k.kind = 0;
                k.cut = zero();
                return was;
            }
            case "seed": {
                int was = s.seed;
                s.seed = x;
                return was;
            }
            case "image":
                kept = s.copy();
                return 1;
            case "back":
                want(kept != null, -5);
                s = kept.copy();
                for (int i = 0; i < 8; i++) if (shelf[i] instanceof K && sorts[i] >= s.keys.size()) shelf[i] = null;
                return 1;
            case "status":
                return status(x);
            default:
                throw new IllegalStateException(name);
        }
    }

    private int safe(int lock) {
        int b = 0;
        for (int k = 0; k < s.keys.size(); k++) b |= toOpen(k, lock) < 0 ? 1 << k : 0;
        return b;
    }

    private int mending(int what, boolean inTruth) {
        List<List<Integer>> plans = new ArrayList<>();
        for (int k = 0; k < s.keys.size(); k++) plans.add(mended(k));
        int coins = 0;
        int cant = 0;
        for (int k = 0; k < s.keys.size(); k++) {
            if (plans.get(k) == null) {
                cant |= 1 << k;
                continue;
            }
            coins += price(s.keys.get(k).cut, plans.get(k));
            if (inTruth) s.keys.get(k).cut = new ArrayList<>(plans.get(k));
        }
        return what == 0 ? coins : cant;
    }

    private int status(int what) {
        int b = 0;
        switch (what) {
            case 0:
                return s.keys.size();
            case 1:
                return s.locks.size();
            case 2:
                return s.n;
            case 3:
                return s.deep;
            case 4:
                return s.strength;
            case 5:
                return s.coins;
            case 6:
                for (int k = 0; k < s.keys.size(); k++) b |= broken(s.keys.get(k)) ? 1 << k : 0;
                return b;
            case 7:
                for (int l = 0; l < s.locks.size(); l++) b |= s.locks.get(l).ward ? 1 << l : 0;
                return b;
            case 8:
                return tape.length();
            case 9:
                return s.seed;
            case 10:
                for (Object o : shelf) b += o != null ? 1 : 0;
                return b;
            default:
                return what >= 12 && what <= 16 ? refused[what - 10] : -1;
        }
    }
}
