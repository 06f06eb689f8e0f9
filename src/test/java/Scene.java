import java.util.Arrays;

/** Families for the tests, and what is in their maps. */
final class Scene {
    static final int MIN = Integer.MIN_VALUE;
    static final int MAX = Integer.MAX_VALUE;
    static final int[] NOT_0_TO_2 = {-1, 3, MIN, MAX};
    static final int[] NOT_0_TO_3 = {-1, 4, MIN, MAX};

    interface Way {
        void go(int kind, int order);
    }

    interface Deed {
        void on(TreeFamily x);
    }

    private Scene() {}

    /** Every kind by every order. */
    static void everyWay(Way way) {
        for (int kind = 0; kind < 4; kind++) {
            for (int order = 0; order < 3; order++) {
                way.go(kind, order);
            }
        }
    }

    /** Key i of a row of keys that are in that order, with room between any two; i may be below 0. */
    static int key(int order, int i) {
        return order == 1 ? -8 * i : 8 * i;
    }

    /** A key that goes behind key i and before the next one. */
    static int between(int order, int i) {
        return key(order, i) + (order == 1 ? -4 : 4);
    }

    /** A key alike to key i: another one, where the order has another one. */
    static int alike(int order, int i) {
        return key(order, i) + (order == 2 ? 3 : 0);
    }

    /** The value that key i of a row comes with. */
    static int value(int i) {
        return 1000 + i;
    }

    /** A family whose map 0 has the keys 0 .. count - 1 of a row. */
    static TreeFamily row(int kind, int order, int count) {
        TreeFamily x = new TreeFamily();
        x.make(0, kind, order);
        putRow(x, 0, order, 0, count);
        return x;
    }

    static void putRow(TreeFamily x, int m, int order, int from, int to) {
        for (int i = from; i < to; i++) {
            x.put(m, key(order, i), value(i));
        }
    }

    /**
     * All three maps have entries and iterators that are under way; map 1 is like map 0, map 2 of
     * another kind and order.
     */
    static Deed busy(int kind, int order) {
        int another = (order + 1) % 3;
        return x -> {
            x.make(0, kind, order);
            putRow(x, 0, order, 0, 6);
            x.range(0, 3, key(order, 1), key(order, 5));
            x.iterate(0, false);
            x.next(0);
            x.make(1, kind, order);
            putRow(x, 1, order, 3, 9);
            x.range(1, 1, key(order, 4), 0);
            x.iterate(1, true);
            x.next(1);
            x.next(1);
            x.make(2, (kind + 1) % 4, another);
            putRow(x, 2, another, -2, 2);
            x.range(2, 2, 0, key(another, 1));
            x.iterate(2, false);
        };
    }

    /** As busy, and then map 0 has 60 entries, all 60 in range, and a new iterator that gave one. */
    static Deed full(int kind, int order) {
        return x -> {
            busy(kind, order).on(x);
            putRow(x, 0, order, 6, 60);
            x.range(0, 3, key(order, 0), key(order, 60));
            x.iterate(0, false);
            x.next(0);
        };
    }

    static TreeFamily after(Deed deed) {
        TreeFamily x = new TreeFamily();
        deed.on(x);
        return x;
    }

    /** Map 0 with these keys, each with ten times itself as its value. */
    static TreeFamily withKeys(int kind, int order, int... keys) {
        TreeFamily x = new TreeFamily();
        x.make(0, kind, order);
        fill(x, 0, keys);
        return x;
    }

    static void fill(TreeFamily x, int m, int... keys) {
        for (int key : keys) {
            x.put(m, key, 10 * key);
        }
    }

    static void fillUp(TreeFamily x, int m, int first, int count) {
        for (int i = 0; i < count; i++) {
            x.put(m, first + i, i);
        }
    }

    static String keys(TreeFamily x, int m) {
        int[] keys = new int[x.size(m)];
        for (int i = 0; i < keys.length; i++) {
            keys[i] = x.select(m, i);
        }
        return Arrays.toString(keys);
    }

    static String values(TreeFamily x, int m) {
        int[] values = new int[x.size(m)];
        for (int i = 0; i < values.length; i++) {
            values[i] = x.get(m, x.select(m, i));
        }
        return Arrays.toString(values);
    }

    /** The keys of a row at these places, as keys() tells them. */
    static String rowKeys(int order, int... places) {
        return Arrays.toString(Arrays.stream(places).map(i -> key(order, i)).toArray());
    }

    /** The values of a row at these places, as values() tells them. */
    static String rowValues(int... places) {
        return Arrays.toString(Arrays.stream(places).map(Scene::value).toArray());
    }

    static int[] places(int from, int to) {
        int[] places = new int[to - from];
        for (int i = 0; i < places.length; i++) {
            places[i] = from + i;
        }
        return places;
    }
}
