import java.util.ArrayList;
import java.util.List;

/** The document once more, in plain lists and with nothing clever: what TreeFamily is held against. */
final class PlainFamily {
    private static final class Entry {
        final int key;
        int value;

        Entry(int key, int value) {
            this.key = key;
            this.value = value;
        }
    }

    private static final class Plain {
        List<Entry> entries = new ArrayList<>();
        int kind;
        int order;
        int changes;
        Integer first;
        Integer second;
        List<Integer> toCome;
        Integer latest;
        int known;
    }

    private final Plain[] maps = {new Plain(), new Plain(), new Plain()};

    private Plain map(int m) {
        legal(m >= 0 && m <= 2);
        return maps[m];
    }

    private static void legal(boolean is) {
        if (!is) {
            throw new IllegalArgumentException();
        }
    }

    private static void inBounds(boolean is) {
        if (!is) {
            throw new IndexOutOfBoundsException();
        }
    }

    private static void goodState(boolean is) {
        if (!is) {
            throw new IllegalStateException();
        }
    }

    private static boolean before(Plain p, int a, int b) {
        if (p.order == 0) {
            return a < b;
        }
        if (p.order == 1) {
            return a > b;
        }
        return Math.floor(a / 4.0) < Math.floor(b / 4.0);
    }

    private static Entry alike(Plain p, int key) {
        for (Entry e : p.entries) {
            if (!before(p, e.key, key) && !before(p, key, e.key)) {
                return e;
            }
        }
        return null;
    }

    private static boolean inRange(Plain p, int key) {
        return (p.first == null || !before(p, key, p.first)) && (p.second == null || before(p, key, p.second));
    }

    private static List<Integer> keysInRange(Plain p) {
        List<Integer> keys = new ArrayList<>();
        for (Entry e : p.entries) {
            if (inRange(p, e.key)) {
                keys.add(e.key);
            }
        }
        return keys;
    }

    private static boolean putEntry(Plain p, int key, int value) {
        Entry e = alike(p, key);
        if (e != null) {
            e.value = value;
            return false;
        }
        inBounds(p.entries.size() < 60);
        int at = 0;
        while (at < p.entries.size() && before(p, p.entries.get(at).key, key)) {
            at++;
        }
        p.entries.add(at, new Entry(key, value));
        p.changes++;
        return true;
    }

    private static void clear(Plain p, int kind, int order) {
        p.entries = new ArrayList<>();
        p.kind = kind;
        p.order = order;
        p.first = null;
        p.second = null;
        p.toCome = null;
        p.latest = null;
        p.changes++;
    }

    void make(int m, int kind, int order) {
        Plain p = map(m);
        legal(kind >= 0 && kind <= 3 && order >= 0 && order <= 2);
        clear(p, kind, order);
    }

    boolean put(int m, int key, int value) {
        return putEntry(map(m), key, value);
    }

    boolean remove(int m, int key) {
        Plain p = map(m);
        boolean gone = p.entries.remove(alike(p, key));
        p.changes += gone ? 1 : 0;
        return gone;
    }

    int get(int m, int key) {
        Entry e = alike(map(m), key);
        inBounds(e != null);
        return e.value;
    }

    int near(int m, int which, int key) {
        Plain p = map(m);
        legal(which >= 0 && which <= 3);
        Integer best = null;
        for (Entry e : p.entries) {
            boolean ahead = before(p, e.key, key);
            boolean behind = before(p, key, e.key);
            if (which == 0 && !behind || which == 2 && ahead) {
                best = e.key;
            }
            if (best == null && (which == 1 && !ahead || which == 3 && behind)) {
                best = e.key;
            }
        }
        inBounds(best != null);
        return best;
    }

    int size(int m) {
        return map(m).entries.size();
    }

    int rank(int m, int key) {
        Plain p = map(m);
        int n = 0;
        for (Entry e : p.entries) {
            n += before(p, e.key, key) ? 1 : 0;
        }
        return n;
    }

    int select(int m, int i) {
        Plain p = map(m);
        inBounds(i >= 0 && i < p.entries.size());
        return p.entries.get(i).key;
    }

    long sum(int m, int key) {
        Plain p = map(m);
        long n = 0;
        for (Entry e : p.entries) {
            n += before(p, e.key, key) ? e.value : 0;
        }
        return n;
    }

    void range(int m, int how, int first, int second) {
        Plain p = map(m);
        legal(how >= 0 && how <= 3);
        legal(how != 3 || !before(p, second, first));
        p.first = how == 1 || how == 3 ? (Integer) first : null;
        p.second = how == 2 || how == 3 ? (Integer) second : null;
    }

    int within(int m, int what) {
        Plain p = map(m);
        legal(what >= 0 && what <= 2);
        List<Integer> keys = keysInRange(p);
        if (what == 0) {
            return keys.size();
        }
        inBounds(!keys.isEmpty());
        return keys.get(what == 1 ? 0 : keys.size() - 1);
    }

    boolean putWithin(int m, int key, int value) {
        Plain p = map(m);
        legal(inRange(p, key));
        return putEntry(p, key, value);
    }

    int poll(int m, boolean last) {
        int key = within(m, last ? 2 : 1);
        remove(m, key);
        return key;
    }

    void iterate(int m, boolean back) {
        Plain p = map(m);
        p.toCome = new ArrayList<>();
        for (int key : keysInRange(p)) {
            p.toCome.add(back ? 0 : p.toCome.size(), key);
        }
        p.latest = null;
        p.known = p.changes;
    }

    int next(int m) {
        Plain p = map(m);
        goodState(p.toCome != null && p.known == p.changes);
        inBounds(!p.toCome.isEmpty());
        p.latest = p.toCome.remove(0);
        return p.latest;
    }

    void drop(int m) {
        Plain p = map(m);
        goodState(p.toCome != null && p.known == p.changes && p.latest != null);
        remove(m, p.latest);
        p.latest = null;
        p.known = p.changes;
    }

    int join(int m, int other, int op) {
        Plain p = map(m);
        Plain q = map(other);
        legal(op >= 0 && op <= 2 && p.order == q.order);
        Plain result = new Plain();
        result.order = p.order;
        int moved = 0;
        for (Entry e : p.entries) {
            Entry twin = alike(q, e.key);
            boolean stays = op == 0 || (op == 1) == (twin != null);
            moved += stays ? 0 : 1;
            if (stays) {
                result.entries.add(new Entry(e.key, twin == null ? e.value : 2 * e.value + twin.value));
            }
        }
        for (Entry e : q.entries) {
            if (op == 0 && alike(p, e.key) == null) {
                putEntry(result, e.key, e.value);
                moved++;
            }
        }
        p.entries = result.entries;
        p.changes += moved;
        return moved;
    }

    int split(int m, int key, int into) {
        Plain p = map(m);
        Plain q = map(into);
        legal(m != into);
        clear(q, p.kind, p.order);
        List<Entry> stay = new ArrayList<>();
        for (Entry e : p.entries) {
            (before(p, e.key, key) ? stay : q.entries).add(e);
        }
        p.entries = stay;
        p.changes += q.entries.size();
        q.changes += q.entries.size();
        return q.entries.size();
    }

    int changes(int m) {
        return map(m).changes;
    }

    boolean audit(int m) {
        map(m);
        return true;
    }
}
