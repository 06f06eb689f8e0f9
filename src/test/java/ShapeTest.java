import java.lang.reflect.Array;
import java.lang.reflect.Field;
import java.util.Random;

/**
 * Promise 21 from inside: the trees are as their kinds want them by a count that does not use the
 * program's own, and audit() sees a tree that was spoilt.
 */
public final class ShapeTest {
    private final TreeFamily family = new TreeFamily();
    private final Object tree;
    private final int[] keys;
    private final int[] left;
    private final int[] right;
    private final int[] counts;

    private ShapeTest() throws ReflectiveOperationException {
        Object map = Array.get(field(family, "maps"), 0);
        tree = field(map, "tree");
        keys = (int[]) field(tree, "keys");
        left = (int[]) field(tree, "left");
        right = (int[]) field(tree, "right");
        counts = (int[]) field(tree, "counts");
    }

    public static void main(String[] args) throws ReflectiveOperationException {
        for (int kind = 0; kind < 4; kind++) {
            new ShapeTest().straight(kind);
            for (int seed = 0; seed < 40; seed++) {
                new ShapeTest().mixed(kind, seed);
            }
            for (int spoil = 0; spoil < 4; spoil++) {
                new ShapeTest().spoilt(kind, spoil);
            }
        }
        new ShapeTest().chainIsSeen();
        for (int way = 0; way < 4; way++) {
            new ShapeTest().highestOfPriorities(way);
        }
        Check.end();
    }

    private static Object field(Object object, String name) throws ReflectiveOperationException {
        return fieldOf(object, name).get(object);
    }

    private static Field fieldOf(Object object, String name) throws ReflectiveOperationException {
        Field field = object.getClass().getDeclaredField(name);
        field.setAccessible(true);
        return field;
    }

    private int root() throws ReflectiveOperationException {
        return (Integer) field(tree, "root");
    }

    private void straight(int kind) throws ReflectiveOperationException {
        family.make(0, kind, 0);
        for (int i = 0; i < 60; i++) {
            family.put(0, i, i);
            look("up", kind);
        }
        for (int i = 0; i < 60; i++) {
            family.remove(0, i);
            look("down", kind);
        }
    }

    private void mixed(int kind, int seed) throws ReflectiveOperationException {
        Random random = new Random(seed);
        family.make(0, kind, seed % 3);
        for (int call = 0; call < 1000; call++) {
            int key = random.nextInt(200);
            if (random.nextInt(60) >= family.size(0)) {
                family.put(0, key, call);
            } else {
                family.remove(0, family.select(0, random.nextInt(family.size(0))));
            }
            look("mixed " + seed, kind);
        }
    }

    private void look(String what, int kind) throws ReflectiveOperationException {
        int root = root();
        Check.same(what + ": count", family.size(0), count(root));
        Check.yes(what + ": kind " + kind + " at every node", suits(root, kind));
        double most = kind == 0 ? 1.45 : kind == 1 ? 2.41 : 1.71;
        if (kind != 2) {
            double bound = most * Math.log(family.size(0) + 2) / Math.log(2) + 1;
            Check.yes(what + ": height " + height(root) + " of kind " + kind, height(root) <= bound);
        }
        Check.yes(what + ": audit", family.audit(0));
    }

    private int count(int node) {
        return node == 0 ? 0 : count(left[node]) + count(right[node]) + 1;
    }

    private int height(int node) {
        return node == 0 ? 0 : Math.max(height(left[node]), height(right[node])) + 1;
    }

    private boolean suits(int node, int kind) {
        if (node == 0) {
            return true;
        }
        boolean here = switch (kind) {
            case 0 -> Math.abs(height(left[node]) - height(right[node])) <= 1;
            case 1 -> weight(left[node]) <= 3 * weight(right[node]) && weight(right[node]) <= 3 * weight(left[node]);
            case 2 -> isAbove(node, left[node]) && isAbove(node, right[node]);
            default -> Math.pow(1.5, height(node) - 1) <= count(node) + 1e-9;
        };
        return here && suits(left[node], kind) && suits(right[node], kind);
    }

    private int weight(int node) {
        return count(node) + 1;
    }

    private boolean isAbove(int node, int below) {
        return below == 0 || priority(keys[node]) > priority(keys[below]);
    }

    private static int priority(int key) {
        int mixed = key * 0x9E3779B1;
        mixed = (mixed ^ (mixed >>> 15)) * 0x85EBCA6B;
        return mixed ^ (mixed >>> 13);
    }

    private void spoilt(int kind, int spoil) throws ReflectiveOperationException {
        family.make(0, kind, 0);
        for (int i = 0; i < 30; i++) {
            family.put(0, i, i);
        }
        Check.yes("spoilt: not yet", family.audit(0));
        int root = root();
        switch (spoil) {
            case 0 -> counts[root]--;
            case 1 -> keys[root] = 1000;
            case 2 -> ((long[]) field(tree, "totals"))[root]++;
            default -> ((int[]) field(tree, "heights"))[root]++;
        }
        Check.no("spoilt: audit of kind " + kind + ", way " + spoil, family.audit(0));
    }

    /** Thirty nodes, each the right one of the node before: sound but for what the kinds want. */
    private void chainIsSeen() throws ReflectiveOperationException {
        for (int kind = 0; kind < 4; kind++) {
            family.make(0, kind, 0);
            for (int i = 0; i < 30; i++) {
                family.put(0, i, i);
            }
            hangInAChain();
            Check.no("a chain is not of kind " + kind, family.audit(0));
        }
    }

    /** Priorities do not bound the height: keys can be chosen so that 60 nodes are a chain, and all must hold there. */
    private void highestOfPriorities(int way) throws ReflectiveOperationException {
        int[] chain = keysOfRisingPriority();
        family.make(0, 2, way % 2);
        for (int i = 0; i < 60; i++) {
            family.put(0, chain[way < 2 ? i : 59 - i], i);
        }
        Check.same("chain: height", 60, height(root()));
        look("chain", 2);
        Check.same("chain: rank", way % 2 == 0 ? 60 : 0, family.rank(0, Integer.MAX_VALUE));
        for (int i = 0; i < 60; i++) {
            Check.same("chain: get", way < 2 ? i : 59 - i, family.get(0, chain[i]));
            Check.same("chain: select", chain[way % 2 == 0 ? i : 59 - i], family.select(0, i));
            Check.no("chain: none", family.remove(0, chain[i] + 1));
        }
        family.remove(0, chain[30]);
        family.put(0, chain[59] + 1, 7);
        look("chain with another end", 2);
        for (int i = 0; i < 60; i++) {
            family.poll(0, i % 2 == 0);
            look("chain, polled", 2);
        }
    }

    /** The longest row of rising keys whose priorities rise too, with room for the key behind each. */
    private static int[] keysOfRisingPriority() {
        int many = 6000;
        int[] length = new int[many];
        int[] before = new int[many];
        int best = 0;
        for (int i = 0; i < many; i++) {
            length[i] = 1;
            before[i] = -1;
            for (int j = i - 1; j >= 0; j--) {
                if (priority(2 * j) < priority(2 * i) && length[j] + 1 > length[i]) {
                    length[i] = length[j] + 1;
                    before[i] = j;
                }
            }
            best = length[i] > length[best] ? i : best;
        }
        int[] keys = new int[60];
        for (int i = 59; i >= 0; i--) {
            keys[i] = 2 * best;
            best = before[best];
        }
        return keys;
    }

    private void hangInAChain() throws ReflectiveOperationException {
        int[] nodes = new int[30];
        for (int node = 1; node <= 60; node++) {
            if (counts[node] > 0 && keys[node] < 30 && isReached(root(), node)) {
                nodes[keys[node]] = node;
            }
        }
        long[] totals = (long[]) field(tree, "totals");
        int[] heights = (int[]) field(tree, "heights");
        for (int i = 29; i >= 0; i--) {
            int below = i == 29 ? 0 : nodes[i + 1];
            left[nodes[i]] = 0;
            right[nodes[i]] = below;
            counts[nodes[i]] = counts[below] + 1;
            totals[nodes[i]] = totals[below] + i;
            heights[nodes[i]] = heights[below] + 1;
        }
        fieldOf(tree, "root").setInt(tree, nodes[0]);
    }

    private boolean isReached(int from, int node) {
        return from != 0 && (from == node || isReached(left[from], node) || isReached(right[from], node));
    }
}
