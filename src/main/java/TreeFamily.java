/**
 * Three sorted maps, each kept in a balanced tree of one of four kinds and by one of three orders.
 *
 * <p>Every row is made together with the object and used again, so that a call makes no object but
 * the exception that it may throw.
 */
public final class TreeFamily {
    private static final int MAPS = 3;
    private static final int KINDS = 4;
    private static final int ORDERS = 3;

    /** How many entries a map may have, and so the bound of every walk through a tree. */
    private static final int ROOM = 60;

    /** The node that stands for an empty tree; its count, total and height stay 0. */
    private static final int NONE = 0;

    private final Kind[] kinds;
    private final OneMap[] maps;

    public TreeFamily() {
        Kind first = new ByHeights();
        kinds = new Kind[] {first, new ByWeights(), new ByPriorities(), new ByRebuilding()};
        maps = new OneMap[MAPS];
        for (int m = 0; m < MAPS; m++) {
            maps[m] = new OneMap(first);
        }
    }

    public void make(int m, int kind, int order) throws IllegalArgumentException {
        OneMap map = mapAt(m);
        if (!isBelow(kind, KINDS) || !isBelow(order, ORDERS)) {
            throw new IllegalArgumentException("no such kind or order");
        }
        map.beginAnew(kinds[kind], order);
    }

    public boolean put(int m, int key, int value)
            throws IllegalArgumentException, IndexOutOfBoundsException {
        return mapAt(m).store(key, value);
    }

    public boolean remove(int m, int key) throws IllegalArgumentException {
        return mapAt(m).takeOut(key);
    }

    public int get(int m, int key) throws IllegalArgumentException, IndexOutOfBoundsException {
        return mapAt(m).valueOf(key);
    }

    public int near(int m, int which, int key)
            throws IllegalArgumentException, IndexOutOfBoundsException {
        OneMap map = mapAt(m);
        switch (which) {
            case 0:
                return map.keyAt(map.countUpTo(key) - 1);
            case 1:
                return map.keyAt(map.countBefore(key));
            case 2:
                return map.keyAt(map.countBefore(key) - 1);
            case 3:
                return map.keyAt(map.countUpTo(key));
            default:
                throw new IllegalArgumentException("no such neighbour");
        }
    }

    public int size(int m) throws IllegalArgumentException {
        return mapAt(m).entryCount();
    }

    public int rank(int m, int key) throws IllegalArgumentException {
        return mapAt(m).countBefore(key);
    }

    public int select(int m, int i) throws IllegalArgumentException, IndexOutOfBoundsException {
        return mapAt(m).keyAt(i);
    }

    public long sum(int m, int key) throws IllegalArgumentException {
        return mapAt(m).totalBefore(key);
    }

    public void range(int m, int how, int first, int second) throws IllegalArgumentException {
        OneMap map = mapAt(m);
        if (!isBelow(how, 4) || how == 3 && map.putsBefore(second, first)) {
            throw new IllegalArgumentException("no such range");
        }
        map.narrow(how, first, second);
    }

    public int within(int m, int what) throws IllegalArgumentException, IndexOutOfBoundsException {
        OneMap map = mapAt(m);
        switch (what) {
            case 0:
                return map.countInRange();
            case 1:
                return map.keyAt(map.endOfRange(false));
            case 2:
                return map.keyAt(map.endOfRange(true));
            default:
                throw new IllegalArgumentException("no such question");
        }
    }

    public boolean putWithin(int m, int key, int value)
            throws IllegalArgumentException, IndexOutOfBoundsException {
        OneMap map = mapAt(m);
        if (!map.isInRange(key)) {
            throw new IllegalArgumentException("the key is not in range");
        }
        return map.store(key, value);
    }

    public int poll(int m, boolean last) throws IllegalArgumentException, IndexOutOfBoundsException {
        OneMap map = mapAt(m);
        int key = map.keyAt(map.endOfRange(last));
        map.takeOut(key);
        return key;
    }

    public void iterate(int m, boolean back) throws IllegalArgumentException {
        mapAt(m).startWalk(back);
    }

    public int next(int m)
            throws IllegalArgumentException, IllegalStateException, IndexOutOfBoundsException {
        OneMap map = mapAt(m);
        if (!map.canWalk()) {
            throw new IllegalStateException("no iterator that knows the map as it is");
        }
        return map.walkOn();
    }

    public void drop(int m) throws IllegalArgumentException, IllegalStateException {
        OneMap map = mapAt(m);
        if (!map.canDrop()) {
            throw new IllegalStateException("no entry that the iterator could drop");
        }
        map.dropLatest();
    }

    public int join(int m, int other, int op)
            throws IllegalArgumentException, IndexOutOfBoundsException {
        OneMap map = mapAt(m);
        OneMap second = mapAt(other);
        if (!isBelow(op, 3) || !map.hasOrderOf(second)) {
            throw new IllegalArgumentException("no such operation, or other orders");
        }
        switch (op) {
            case 0:
                return map.unite(second);
            case 1:
                return map.intersect(second);
            default:
                return map.subtract(second);
        }
    }

    public int split(int m, int key, int into) throws IllegalArgumentException {
        OneMap map = mapAt(m);
        OneMap target = mapAt(into);
        if (into == m) {
            throw new IllegalArgumentException("a map is not split into itself");
        }
        return map.moveBehind(key, target);
    }

    public int changes(int m) throws IllegalArgumentException {
        return mapAt(m).changes;
    }

    public boolean audit(int m) throws IllegalArgumentException {
        return mapAt(m).isSound();
    }

    private OneMap mapAt(int m) {
        if (!isBelow(m, MAPS)) {
            throw new IllegalArgumentException("no such map");
        }
        return maps[m];
    }

    private static boolean isBelow(int number, int bound) {
        return number >= 0 && number < bound;
    }

    private static boolean goesBefore(int order, int one, int other) {
        switch (order) {
            case 1:
                return one > other;
            case 2:
                return Math.floorDiv(one, 4) < Math.floorDiv(other, 4);
            default:
                return one < other;
        }
    }

    /** A tree of entries with the range, the iterator and the CHANGES that a map has beside it. */
    private static final class OneMap {
        private final Tree tree;
        private final Range range;
        private final Walk walk;
        private int changes;

        OneMap(Kind kind) {
            tree = new Tree(kind);
            range = new Range();
            walk = new Walk();
            changes = 0;
        }

        void beginAnew(Kind kind, int order) {
            tree.clear(kind, order);
            range.hasFirst = false;
            range.hasSecond = false;
            walk.isOn = false;
            changes++;
        }

        boolean store(int key, int value) {
            if (entryCount() >= ROOM && tree.trace(key) == NONE) {
                throw new IndexOutOfBoundsException("no room for one more entry");
            }
            boolean isNew = tree.assign(key, value);
            if (isNew) {
                changes++;
            }
            return isNew;
        }

        boolean takeOut(int key) {
            boolean wasThere = tree.delete(key);
            if (wasThere) {
                changes++;
            }
            return wasThere;
        }

        int valueOf(int key) {
            int node = tree.trace(key);
            if (node == NONE) {
                throw new IndexOutOfBoundsException("no entry of a key alike");
            }
            return tree.values[node];
        }

        int keyAt(int i) {
            int node = tree.nodeAt(tree.root, i);
            if (node == NONE) {
                throw new IndexOutOfBoundsException("no such entry");
            }
            return tree.keys[node];
        }

        int entryCount() {
            return tree.counts[tree.root];
        }

        int countBefore(int key) {
            return tree.countBefore(key);
        }

        int countUpTo(int key) {
            return tree.countBefore(key) + (tree.trace(key) == NONE ? 0 : 1);
        }

        long totalBefore(int key) {
            return tree.totalBefore(key);
        }

        boolean putsBefore(int one, int other) {
            return goesBefore(tree.order, one, other);
        }

        boolean hasOrderOf(OneMap other) {
            return tree.order == other.tree.order;
        }

        void narrow(int how, int first, int second) {
            range.hasFirst = (how & 1) != 0;
            range.hasSecond = (how & 2) != 0;
            range.first = first;
            range.second = second;
        }

        boolean isInRange(int key) {
            return range.holds(tree.order, key);
        }

        int countInRange() {
            return range.end(tree) - range.start(tree);
        }

        /**
         * The place of the last or the first entry in range; -1, which no entry has, if there is
         * none.
         */
        int endOfRange(boolean last) {
            int start = range.start(tree);
            int end = range.end(tree);
            if (start >= end) {
                return -1;
            }
            return last ? end - 1 : start;
        }

        void startWalk(boolean back) {
            walk.begin(range.start(tree), range.end(tree), back);
            walk.known = changes;
        }

        boolean canWalk() {
            return walk.isOn && walk.known == changes;
        }

        int walkOn() {
            int key = keyAt(walk.ahead());
            walk.step();
            return key;
        }

        boolean canDrop() {
            return canWalk() && walk.hasGiven;
        }

        void dropLatest() {
            tree.delete(keyAt(walk.latest()));
            changes++;
            walk.forgetLatest();
            walk.known = changes;
        }

        /** The other map may be this one: then every entry meets itself and none is new. */
        int unite(OneMap other) {
            int coming = countMissing(other);
            if (entryCount() + coming > ROOM) {
                throw new IndexOutOfBoundsException("no room for the union");
            }
            int count = other.entryCount();
            for (int i = 0; i < count; i++) {
                int theirs = other.tree.nodeAt(other.tree.root, i);
                int key = other.tree.keys[theirs];
                int value = other.tree.values[theirs];
                int mine = tree.trace(key);
                tree.assign(key, mine == NONE ? value : 2 * tree.values[mine] + value);
            }
            changes += coming;
            return coming;
        }

        private int countMissing(OneMap other) {
            int missing = 0;
            int count = other.entryCount();
            for (int i = 0; i < count; i++) {
                int theirs = other.tree.nodeAt(other.tree.root, i);
                if (tree.trace(other.tree.keys[theirs]) == NONE) {
                    missing++;
                }
            }
            return missing;
        }

        /** Goes from the last entry on, so that what is deleted moves none that is still to come. */
        int intersect(OneMap other) {
            int before = entryCount();
            for (int i = before - 1; i >= 0; i--) {
                int mine = tree.nodeAt(tree.root, i);
                int key = tree.keys[mine];
                int theirs = other.tree.trace(key);
                if (theirs == NONE) {
                    tree.delete(key);
                } else {
                    tree.assign(key, 2 * tree.values[mine] + other.tree.values[theirs]);
                }
            }
            return countGone(before);
        }

        /**
         * From the last entry on, as intersect: each key asks the other map, or this one, for
         * itself alone.
         */
        int subtract(OneMap other) {
            int before = entryCount();
            for (int i = before - 1; i >= 0; i--) {
                int key = tree.keys[tree.nodeAt(tree.root, i)];
                if (other.tree.trace(key) != NONE) {
                    tree.delete(key);
                }
            }
            return countGone(before);
        }

        private int countGone(int before) {
            int gone = before - entryCount();
            changes += gone;
            return gone;
        }

        int moveBehind(int key, OneMap target) {
            target.beginAnew(tree.kind, tree.order);
            int before = entryCount();
            int stay = tree.countBefore(key);
            for (int i = before - 1; i >= stay; i--) {
                int node = tree.nodeAt(tree.root, i);
                int moving = tree.keys[node];
                target.tree.assign(moving, tree.values[node]);
                tree.delete(moving);
            }
            target.changes += before - stay;
            return countGone(before);
        }

        boolean isSound() {
            return tree.isSound();
        }
    }

    /** From a key on, up to but without another one; each end may be missing. */
    private static final class Range {
        private boolean hasFirst;
        private boolean hasSecond;
        private int first;
        private int second;

        boolean holds(int order, int key) {
            boolean isTooEarly = hasFirst && goesBefore(order, key, first);
            boolean isTooLate = hasSecond && !goesBefore(order, key, second);
            return !isTooEarly && !isTooLate;
        }

        int start(Tree tree) {
            return hasFirst ? tree.countBefore(first) : 0;
        }

        int end(Tree tree) {
            return hasSecond ? tree.countBefore(second) : tree.counts[tree.root];
        }
    }

    /**
     * An iterator, which stands between two places of the map. Places are enough: while CHANGES is
     * what it knows, no entry but those that it dropped itself has come or gone.
     */
    private static final class Walk {
        private boolean isOn;
        private boolean isBack;
        private boolean hasGiven;
        private int known;
        private int start;
        private int end;
        private int place;

        void begin(int newStart, int newEnd, boolean back) {
            isOn = true;
            isBack = back;
            hasGiven = false;
            start = newStart;
            end = newEnd;
            place = back ? newEnd : newStart;
        }

        /** The place of the next entry; -1, which no entry has, if there is none more. */
        int ahead() {
            if (isBack) {
                return place > start ? place - 1 : -1;
            }
            return place < end ? place : -1;
        }

        void step() {
            place += isBack ? -1 : 1;
            hasGiven = true;
        }

        int latest() {
            return isBack ? place : place - 1;
        }

        /**
         * The places behind the dropped entry move down by one: on the way back none of them is to
         * come.
         */
        void forgetLatest() {
            if (!isBack) {
                place--;
                end--;
            }
            hasGiven = false;
        }
    }

    /** The entries of a map as a search tree; a node is a number, by which all rows are read. */
    private static final class Tree {
        private final int[] keys = new int[ROOM + 1];
        private final int[] values = new int[ROOM + 1];
        private final int[] left = new int[ROOM + 1];
        private final int[] right = new int[ROOM + 1];
        private final int[] counts = new int[ROOM + 1];
        private final int[] heights = new int[ROOM + 1];
        private final long[] totals = new long[ROOM + 1];
        private final int[] spare = new int[ROOM];
        private final int[] path = new int[ROOM + 1];
        private final int[] row = new int[ROOM];
        private int spares;
        private int depth;
        private int root;
        private int order;
        private Kind kind;

        Tree(Kind firstKind) {
            clear(firstKind, 0);
        }

        void clear(Kind newKind, int newOrder) {
            kind = newKind;
            order = newOrder;
            root = NONE;
            depth = 0;
            spares = ROOM;
            for (int i = 0; i < ROOM; i++) {
                spare[i] = ROOM - i;
            }
        }

        /**
         * The node of a key alike, or NONE. The path leads to it, or to the node below which it
         * would hang.
         */
        int trace(int key) {
            depth = 0;
            int node = root;
            while (node != NONE && depth < ROOM) {
                path[depth] = node;
                depth++;
                if (goesBefore(order, key, keys[node])) {
                    node = left[node];
                } else if (goesBefore(order, keys[node], key)) {
                    node = right[node];
                } else {
                    return node;
                }
            }
            return NONE;
        }

        int countBefore(int key) {
            int before = 0;
            int node = root;
            for (int level = 0; node != NONE && level < ROOM; level++) {
                if (goesBefore(order, keys[node], key)) {
                    before += counts[left[node]] + 1;
                    node = right[node];
                } else {
                    node = left[node];
                }
            }
            return before;
        }

        long totalBefore(int key) {
            long total = 0;
            int node = root;
            for (int level = 0; node != NONE && level < ROOM; level++) {
                if (goesBefore(order, keys[node], key)) {
                    total += totals[left[node]] + values[node];
                    node = right[node];
                } else {
                    node = left[node];
                }
            }
            return total;
        }

        /** The node at a place, in order, of the tree below a node; NONE if it has no such place. */
        int nodeAt(int top, int place) {
            if (!isBelow(place, counts[top])) {
                return NONE;
            }
            int node = top;
            int ahead = place;
            for (int level = 0; node != NONE && level < ROOM; level++) {
                int before = counts[left[node]];
                if (ahead == before) {
                    return node;
                }
                if (ahead < before) {
                    node = left[node];
                } else {
                    ahead -= before + 1;
                    node = right[node];
                }
            }
            return NONE;
        }

        /** Whether the key is a new entry; a full tree takes none. */
        boolean assign(int key, int value) {
            int node = trace(key);
            boolean isNew = node == NONE && spares > 0;
            if (isNew) {
                node = hang(key);
            }
            if (node != NONE) {
                values[node] = value;
                climb();
            }
            return isNew;
        }

        private int hang(int key) {
            spares--;
            int node = spare[spares];
            keys[node] = key;
            left[node] = NONE;
            right[node] = NONE;
            if (depth == 0) {
                root = node;
            } else if (goesBefore(order, key, keys[path[depth - 1]])) {
                left[path[depth - 1]] = node;
            } else {
                right[path[depth - 1]] = node;
            }
            path[depth] = node;
            depth++;
            return node;
        }

        boolean delete(int key) {
            int node = trace(key);
            if (node == NONE) {
                return false;
            }
            if (left[node] != NONE && right[node] != NONE) {
                takeFollower(node);
            }
            depth--;
            int gone = path[depth];
            setAt(depth, left[gone] != NONE ? left[gone] : right[gone]);
            spare[spares] = gone;
            spares++;
            climb();
            return true;
        }

        /**
         * The next entry comes to the node, and the path goes on to the node that it leaves: that
         * has no left one.
         */
        private void takeFollower(int node) {
            int follower = right[node];
            while (follower != NONE && depth < ROOM) {
                path[depth] = follower;
                depth++;
                follower = left[follower];
            }
            int last = path[depth - 1];
            keys[node] = keys[last];
            values[node] = values[last];
        }

        /** From the end of the path to the root: only there can a node have come out of balance. */
        private void climb() {
            for (int level = depth - 1; level >= 0; level--) {
                refresh(path[level]);
                setAt(level, kind.settle(this, path[level]));
            }
        }

        private void setAt(int level, int node) {
            if (level == 0) {
                root = node;
            } else if (left[path[level - 1]] == path[level]) {
                left[path[level - 1]] = node;
            } else {
                right[path[level - 1]] = node;
            }
        }

        void refresh(int node) {
            int one = left[node];
            int other = right[node];
            counts[node] = counts[one] + counts[other] + 1;
            totals[node] = totals[one] + totals[other] + values[node];
            heights[node] = (heights[one] > heights[other] ? heights[one] : heights[other]) + 1;
        }

        int raiseLeft(int node) {
            int raised = left[node];
            left[node] = right[raised];
            right[raised] = node;
            refresh(node);
            refresh(raised);
            return raised;
        }

        int raiseRight(int node) {
            int raised = right[node];
            right[node] = left[raised];
            left[raised] = node;
            refresh(node);
            refresh(raised);
            return raised;
        }

        /** The same entries as low as can be. */
        int rebuild(int top) {
            int count = counts[top];
            for (int i = 0; i < count; i++) {
                row[i] = nodeAt(top, i);
            }
            return halve(0, count, ROOM);
        }

        private int halve(int from, int to, int levels) {
            if (from >= to || levels == 0) {
                return NONE;
            }
            int middle = from + (to - from) / 2;
            int node = row[middle];
            left[node] = halve(from, middle, levels - 1);
            right[node] = halve(middle + 1, to, levels - 1);
            refresh(node);
            return node;
        }

        boolean isSound() {
            int count = counts[root];
            for (int i = 0; i < count; i++) {
                int node = nodeAt(root, i);
                if (node == NONE || !addsUp(node) || !kind.suits(this, node)) {
                    return false;
                }
                if (i > 0 && !goesBefore(order, keys[nodeAt(root, i - 1)], keys[node])) {
                    return false;
                }
            }
            return count + spares == ROOM;
        }

        private boolean addsUp(int node) {
            int one = left[node];
            int other = right[node];
            return counts[node] == counts[one] + counts[other] + 1
                    && totals[node] == totals[one] + totals[other] + values[node]
                    && heights[node] == (heights[one] > heights[other] ? heights[one] : heights[other]) + 1;
        }
    }

    /**
     * How trees are kept in balance. What a kind wants, it wants of each node and the nodes below
     * it.
     */
    private abstract static class Kind {
        /**
         * The top of the tree below a node, when the kind has settled it; all that is deeper suits
         * already.
         */
        abstract int settle(Tree tree, int node);

        abstract boolean suits(Tree tree, int node);
    }

    /** The kinds that compare the two sides of a node and raise the one that is too much. */
    private abstract static class ByTwoSides extends Kind {
        abstract boolean isTooMuch(Tree tree, int side, int other);

        /**
         * Whether the inner part would be too much on the other side, so that it has to be parted
         * first.
         */
        abstract boolean hasToPart(Tree tree, int inner, int outer);

        int settle(Tree tree, int node) {
            int left = tree.left[node];
            int right = tree.right[node];
            if (isTooMuch(tree, left, right)) {
                if (hasToPart(tree, tree.right[left], tree.left[left])) {
                    tree.left[node] = tree.raiseRight(left);
                }
                return tree.raiseLeft(node);
            }
            if (isTooMuch(tree, right, left)) {
                if (hasToPart(tree, tree.left[right], tree.right[right])) {
                    tree.right[node] = tree.raiseLeft(right);
                }
                return tree.raiseRight(node);
            }
            return node;
        }

        boolean suits(Tree tree, int node) {
            int left = tree.left[node];
            int right = tree.right[node];
            return !isTooMuch(tree, left, right) && !isTooMuch(tree, right, left);
        }
    }

    /** The heights of the two sides differ by one at most. */
    private static final class ByHeights extends ByTwoSides {
        boolean isTooMuch(Tree tree, int side, int other) {
            return tree.heights[side] > tree.heights[other] + 1;
        }

        boolean hasToPart(Tree tree, int inner, int outer) {
            return tree.heights[inner] > tree.heights[outer];
        }
    }

    /**
     * No side weighs more than three times the other, a weight being a count and one. With 3 and 2
     * one raise, or two, mends what one entry more or less has done; most other numbers fail.
     */
    private static final class ByWeights extends ByTwoSides {
        boolean isTooMuch(Tree tree, int side, int other) {
            return tree.counts[side] + 1 > 3 * (tree.counts[other] + 1);
        }

        boolean hasToPart(Tree tree, int inner, int outer) {
            return tree.counts[inner] + 1 >= 2 * (tree.counts[outer] + 1);
        }
    }

    /** No node has a lower priority than the nodes below it. */
    private static final class ByPriorities extends Kind {
        int settle(Tree tree, int node) {
            return sink(tree, node, ROOM);
        }

        boolean suits(Tree tree, int node) {
            return preferred(tree, node) == node;
        }

        private static int sink(Tree tree, int node, int levels) {
            int above = preferred(tree, node);
            if (above == node || levels == 0) {
                return node;
            }
            if (above == tree.left[node]) {
                tree.raiseLeft(node);
                tree.right[above] = sink(tree, node, levels - 1);
            } else {
                tree.raiseRight(node);
                tree.left[above] = sink(tree, node, levels - 1);
            }
            tree.refresh(above);
            return above;
        }

        /** Of a node and the two below it the one of the highest priority. */
        private static int preferred(Tree tree, int node) {
            int best = node;
            int left = tree.left[node];
            int right = tree.right[node];
            if (left != NONE && priority(tree.keys[left]) > priority(tree.keys[best])) {
                best = left;
            }
            if (right != NONE && priority(tree.keys[right]) > priority(tree.keys[best])) {
                best = right;
            }
            return best;
        }

        /** Scrambles a key: neighbours come far apart, and no two keys have the same priority. */
        private static int priority(int key) {
            int mixed = key * 0x9E3779B1;
            mixed = (mixed ^ (mixed >>> 15)) * 0x85EBCA6B;
            return mixed ^ (mixed >>> 13);
        }
    }

    /**
     * A tree of n entries is not higher than one that grows by half with each level; one that is
     * gets rebuilt.
     */
    private static final class ByRebuilding extends Kind {
        private static final int LEVELS = 30;

        int settle(Tree tree, int node) {
            return suits(tree, node) ? node : tree.rebuild(node);
        }

        boolean suits(Tree tree, int node) {
            return tree.heights[node] <= highest(tree.counts[node]);
        }

        /** The greatest height h for which (3 / 2) to the power of h - 1 is not above the count. */
        private static int highest(int count) {
            int height = 0;
            long power = 1;
            long bound = count;
            while (power <= bound && height < LEVELS) {
                height++;
                power *= 3;
                bound *= 2;
            }
            return height;
        }
    }
}
