import java.lang.reflect.Array;
import java.lang.reflect.Field;
import java.util.Random;

/**
 * Promise 21 from inside: the trees are as their kinds want them by a count that does not use the
 * program's own, and audit() sees a tree that was spoilt.
 */
public final class ShapeTest {
    private final TreeFamily family = new TreeFamily();
    private final int map;
    private final Object tree;
    private final int[] keys;
    private final int[] left;
    private final int[] right;
    private final int[] counts;

    private ShapeTest() throws ReflectiveOperationException {
        this(0);
    }

    private ShapeTest(int m) throws ReflectiveOperationException {
        map = m;
        tree = field(Array.get(field(family, "maps"), m), "tree");
        keys = (int[]) field(tree, "keys");
        left = (int[]) field(tree, "left");
        right = (int[]) field(tree, "right");
        counts = (int[]) field(tree, "counts");
    }

    public static void main(String[] args) throws ReflectiveOperationException {
        for (int kind = 0; kind < 4; kind++) {
            new ShapeTest().straight(kind);
            for (int seed = 0; seed < 40; seed++) {
                new ShapeTest().mixed(kind, seed);
            }
            for (int spoil = 0; spoil < 5; spoil++) {
                new ShapeTest().spoilt(kind, spoil);
            }
        }
        for (int m = 0; m < 3; m++) {
            new ShapeTest(m).newObjectIsOfKind0();
            for (int kind = 0; kind < 4; kind++) {
                for (int another = 0; another < 4; another++) {
                    new ShapeTest(m).refusedMakeLeavesTheKind(kind, another);
                    new ShapeTest(m).joinLeavesTheKind(kind, another);
                    new ShapeTest(m).splitGivesTheKind(kind, another);
                }
            }
        }
        new ShapeTest().chainIsSeen();
        for (int way = 0; way < 4; way++) {
            new ShapeTest().highestOfPriorities(way);
        }
        Check.end();
    }

    private static Object field(Object object, String name) throws ReflectiveOperationException {
        return fieldOf(object, name).get(object);
    }

    private static Field fieldOf(Object object, String name) throws ReflectiveOperationException {
        Field field = object.getClass().getDeclaredField(name);
        field.setAccessible(true);
        return field;
    }

    private int root() throws ReflectiveOperationException {
        return (Integer) field(tree, "root");
    }

    private void straight(int kind) throws ReflectiveOperationException {
        family.make(map, kind, 0);
        for (int i = 0; i < 60; i++) {
            family.put(map, i, i);
            look("up", kind);
        }
        for (int i = 0; i < 60; i++) {
            family.remove(map, i);
            look("down", kind);
        }
    }

    private void mixed(int kind, int seed) throws ReflectiveOperationException {
        Random random = new Random(seed);
        family.make(map, kind, seed % 3);
        stir("mixed " + seed, kind, random);
    }

    private void stir(String what, int kind, Random random) throws ReflectiveOperationException {
        for (int call = 0; call < 1000; call++) {
            int key = random.nextInt(200);
            if (random.nextInt(60) >= family.size(map)) {
                family.put(map, key, call);
            } else {
                family.remove(map, family.select(map, random.nextInt(family.size(map))));
            }
            look(what, kind);
        }
    }

    private void newObjectIsOfKind0() throws ReflectiveOperationException {
        stir("new object", 0, new Random(map));
    }

    private void refusedMakeLeavesTheKind(int kind, int another) throws ReflectiveOperationException {
        family.make(map, kind, 0);
        Check.illegal("no such order", () -> family.make(map, another, 3));
        Check.illegal("no such kind", () -> family.make(map, 4 + another, 0));
        stir("refused make", kind, new Random(another));
    }

    private void joinLeavesTheKind(int kind, int another) throws ReflectiveOperationException {
        int other = (map + 1) % 3;
        family.make(map, kind, 0);
        family.make(other, another, 0);
        for (int op = 0; op < 3; op++) {
            for (int i = 0; i < 30; i++) {
                family.put(map, 2 * i, i);
                family.put(other, 2 * i + (i < 15 ? 0 : 1), i);
            }
            family.join(map, other, op);
            look("join, op " + op, kind);
            stir("join, op " + op, kind, new Random(op));
            family.join(map, map, 2);
            look("none left", kind);
        }
    }

    private void splitGivesTheKind(int kind, int another) throws ReflectiveOperationException {
        int from = (map + 1) % 3;
        family.make(from, kind, 0);
        family.make(map, another, 2);
        for (int i = 0; i < 60; i++) {
            family.put(from, i, i);
        }
        family.split(from, 10, map);
        look("split", kind);
        stir("split", kind, new Random(another));
        family.make(map, another, 2);
        family.split(from, 10, map);
        stir("split of none", kind, new Random(another));
    }

    private void look(String what, int kind) throws ReflectiveOperationException {
        int root = root();
        Check.same(what + ": count", family.size(map), count(root));
        Check.yes(what + ": kind " + kind + " at every node", suits(root, kind));
        double most = kind == 0 ? 1.45 : kind == 1 ? 2.41 : 1.71;
        if (kind != 2) {
            double bound = most * Math.log(family.size(map) + 2) / Math.log(2) + 1;
            Check.yes(what + ": height " + height(root) + " of kind " + kind, height(root) <= bound);
        }
        Check.yes(what + ": audit", family.audit(map));
    }

    private int count(int node) {
        return node == 0 ? 0 : count(left[node]) + count(right[node]) + 1;
    }

    private int height(int node) {
        return node == 0 ? 0 : Math.max(height(left[node]), height(right[node])) + 1;
    }

    private boolean suits(int node, int kind) {
        if (node == 0) {
            return true;
        }
        boolean here = switch (kind) {
            case 0 -> Math.abs(height(left[node]) - height(right[node])) <= 1;
            case 1 -> weight(left[node]) <= 3 * weight(right[node]) && weight(right[node]) <= 3 * weight(left[node]);
            case 2 -> isAbove(node, left[node]) && isAbove(node, right[node]);
            default -> Math.pow(1.5, height(node) - 1) <= count(node) + 1e-9;
        };
        return here && suits(left[node], kind) && suits(right[node], kind);
    }

    private int weight(int node) {
        return count(node) + 1;
    }

    private boolean isAbove(int node, int below) {
        return below == 0 || priority(keys[node]) > priority(keys[below]);
    }

    private static int priority(int key) {
        int mixed = key * 0x9E3779B1;
        mixed = (mixed ^ (mixed >>> 15)) * 0x85EBCA6B;
        return mixed ^ (mixed >>> 13);
    }

    private void spoilt(int kind, int spoil) throws ReflectiveOperationException {
        family.make(map, kind, 0);
        for (int i = 0; i < 30; i++) {
            family.put(map, i, i);
        }
        Check.yes("spoilt: not yet", family.audit(map));
        int root = root();
        switch (spoil) {
            case 0 -> counts[root]--;
            case 1 -> keys[root] = 1000;
            case 2 -> ((long[]) field(tree, "totals"))[root]++;
            case 3 -> ((int[]) field(tree, "heights"))[root]++;
            default -> fieldOf(tree, "spares").setInt(tree, 29);
        }
        Check.no("spoilt: audit of kind " + kind + ", way " + spoil, family.audit(map));
    }

    /** Thirty nodes, each the right one of the node before: sound but for what the kinds want. */
    private void chainIsSeen() throws ReflectiveOperationException {
        for (int kind = 0; kind < 4; kind++) {
            family.make(map, kind, 0);
            for (int i = 0; i < 30; i++) {
                family.put(map, i, i);
            }
            hangInAChain();
            Check.no("a chain is not of kind " + kind, family.audit(map));
        }
    }

    /** Priorities do not bound the height: keys can be chosen so that 60 nodes are a chain, and all must hold there. */
    private void highestOfPriorities(int way) throws ReflectiveOperationException {
        int[] chain = keysOfRisingPriority();
        family.make(map, 2, way % 2);
        for (int i = 0; i < 60; i++) {
            family.put(map, chain[way < 2 ? i : 59 - i], i);
        }
        Check.same("chain: height", 60, height(root()));
        look("chain", 2);
        Check.same("chain: rank", way % 2 == 0 ? 60 : 0, family.rank(map, Integer.MAX_VALUE));
        for (int i = 0; i < 60; i++) {
            Check.same("chain: get", way < 2 ? i : 59 - i, family.get(map, chain[i]));
            Check.same("chain: select", chain[way % 2 == 0 ? i : 59 - i], family.select(map, i));
            Check.no("chain: none", family.remove(map, chain[i] + 1));
        }
        family.remove(map, chain[30]);
        family.put(map, chain[59] + 1, 7);
        look("chain with another end", 2);
        for (int i = 0; i < 60; i++) {
            family.poll(map, i % 2 == 0);
            look("chain, polled", 2);
        }
    }

    /** The longest row of rising keys whose priorities rise too, with room for the key behind each. */
    private static int[] keysOfRisingPriority() {
        int many = 6000;
        int[] length = new int[many];
        int[] before = new int[many];
        int best = 0;
        for (int i = 0; i < many; i++) {
            length[i] = 1;
            before[i] = -1;
            for (int j = i - 1; j >= 0; j--) {
                if (priority(2 * j) < priority(2 * i) && length[j] + 1 > length[i]) {
                    length[i] = length[j] + 1;
                    before[i] = j;
                }
            }
            best = length[i] > length[best] ? i : best;
        }
        int[] keys = new int[60];
        for (int i = 59; i >= 0; i--) {
            keys[i] = 2 * best;
            best = before[best];
        }
        return keys;
    }

    private void hangInAChain() throws ReflectiveOperationException {
        int[] nodes = new int[30];
        for (int node = 1; node <= 60; node++) {
            if (counts[node] > 0 && keys[node] < 30 && isReached(root(), node)) {
                nodes[keys[node]] = node;
            }
        }
        long[] totals = (long[]) field(tree, "totals");
        int[] heights = (int[]) field(tree, "heights");
        for (int i = 29; i >= 0; i--) {
            int below = i == 29 ? 0 : nodes[i + 1];
            left[nodes[i]] = 0;
            right[nodes[i]] = below;
            counts[nodes[i]] = counts[below] + 1;
            totals[nodes[i]] = totals[below] + i;
            heights[nodes[i]] = heights[below] + 1;
        }
        fieldOf(tree, "root").setInt(tree, nodes[0]);
    }

    private boolean isReached(int from, int node) {
        return from != 0 && (from == node || isReached(left[from], node) || isReached(right[from], node));
    }
}
