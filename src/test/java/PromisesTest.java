/** Each promise by itself: ordinary inputs, the edges that the document names, and wrong inputs. */
public final class PromisesTest {
    private static final int MIN = Scene.MIN;
    private static final int MAX = Scene.MAX;
    private static final int[] NO_MAPS = Scene.NOT_0_TO_2;

    public static void main(String[] args) {
        promise1NewObject();
        promise2Make();
        promise3Put();
        promise4Remove();
        promise5Get();
        promise6Near();
        promise7Size();
        promise8Rank();
        promise9Select();
        promise10Sum();
        promise11Range();
        promise12Within();
        promise13PutWithin();
        promise14Poll();
        promise15Iterate();
        promise16Next();
        promise17Drop();
        promise18Join();
        promise19Split();
        promise20Changes();
        promise21Audit();
        Check.end();
    }

    private static void promise1NewObject() {
        TreeFamily x = new TreeFamily();
        for (int m = 0; m < 3; m++) {
            int map = m;
            Check.same("new: size", 0, x.size(m));
            Check.same("new: changes", 0, x.changes(m));
            Check.same("new: in range", 0, x.within(m, 0));
            Check.badState("new: no iterator", () -> x.next(map));
            Check.badState("new: nothing to drop", () -> x.drop(map));
            Check.yes("new: audit", x.audit(m));
            Scene.fill(x, m, 3, 2, 1);
            Check.same("new: order 0", "[1, 2, 3]", Scene.keys(x, m));
            Check.same("new: no range", 3, x.within(m, 0));
        }
        Check.same("new: same order everywhere", 0, x.join(0, 1, 0));
    }

    private static void promise2Make() {
        TreeFamily x = Scene.withKeys(0, 0, 1, 2, 3);
        x.range(0, 1, 2, 0);
        x.iterate(0, false);
        x.put(1, 1, 1);
        for (int kind = 0; kind < 4; kind++) {
            for (int order = 0; order < 3; order++) {
                x.make(0, kind, order);
                Check.same("make: empty", 0, x.size(0));
                Check.badState("make: no iterator", () -> x.next(0));
                Scene.fill(x, 0, 1, 2, 3, 8);
                Check.same("make: no range", x.size(0), x.within(0, 0));
                String due = order == 0 ? "[1, 2, 3, 8]" : order == 1 ? "[8, 3, 2, 1]" : "[1, 8]";
                Check.same("make: order " + order, due, Scene.keys(x, 0));
                x.range(0, order % 2 == 0 ? 1 : 2, 8, 3);
                x.iterate(0, true);
            }
        }
        Check.same("make: another map stays", "[1]", Scene.keys(x, 1));
        Check.same("make: another map's changes", 1, x.changes(1));
        String before = Scene.keys(x, 0);
        int changes = x.changes(0);
        for (int bad : new int[] {-1, 4, MIN, MAX}) {
            Check.illegal("make: kind", () -> x.make(0, bad, 0));
        }
        for (int bad : new int[] {-1, 3, MIN, MAX}) {
            Check.illegal("make: order", () -> x.make(0, 0, bad));
            Check.illegal("make: map", () -> x.make(bad, 0, 0));
        }
        Check.same("make: what throws changes nothing", before, Scene.keys(x, 0));
        Check.same("make: nor changes", changes, x.changes(0));
        Check.same("make: nor the range", 1, x.within(0, 0));
        Check.same("make: nor the iterator", 8, x.next(0));
    }

    private static void promise3Put() {
        for (int kind = 0; kind < 4; kind++) {
            TreeFamily x = new TreeFamily();
            x.make(2, kind, 2);
            Check.yes("put: new", x.put(2, 5, 1));
            Check.no("put: alike", x.put(2, 6, 2));
            Check.same("put: the key stays", "[5]", Scene.keys(x, 2));
            Check.same("put: the value does not", 2, x.get(2, 5));
            Check.yes("put: below 0", x.put(2, -1, 3));
            Check.yes("put: rounded down, not cut", x.put(2, 0, 4));
            Check.no("put: alike below 0", x.put(2, -4, 5));
            Check.yes("put: not alike below 0", x.put(2, -5, 6));
            Check.same("put: keys", "[-5, -1, 0, 5]", Scene.keys(x, 2));
            Check.yes("put: least key", x.put(2, MIN, 7));
            Check.yes("put: greatest key", x.put(2, MAX, 8));
            Check.same("put: ends", "[-2147483648, -5, -1, 0, 5, 2147483647]", Scene.keys(x, 2));

            x.make(2, kind, kind % 2);
            Scene.fillUp(x, 2, 100, 60);
            int changes = x.changes(2);
            Check.outOfBounds("put: the 61st", () -> x.put(2, 160, 1));
            Check.outOfBounds("put: the 61st ahead", () -> x.put(2, 99, 1));
            Check.no("put: a new value in a full map", x.put(2, 130, -9));
            Check.same("put: it is there", -9, x.get(2, 130));
            Check.same("put: still 60", 60, x.size(2));
            Check.same("put: no change", changes, x.changes(2));
            x.remove(2, 130);
            Check.yes("put: the 60th again", x.put(2, 200, 1));
            for (int m : NO_MAPS) {
                Check.illegal("put: map", () -> x.put(m, 1, 1));
            }
        }
    }

    private static void promise4Remove() {
        for (int kind = 0; kind < 4; kind++) {
            TreeFamily x = Scene.withKeys(kind, 2, 4, 9, -3, 13, 22);
            Check.no("remove: none", x.remove(0, 16));
            Check.same("remove: none, changes", 6, x.changes(0));
            Check.yes("remove: alike", x.remove(0, 11));
            Check.same("remove: changes", 7, x.changes(0));
            Check.same("remove: keys", "[-3, 4, 13, 22]", Scene.keys(x, 0));
            Check.no("remove: gone", x.remove(0, 9));
            Check.yes("remove: alike below 0", x.remove(0, -4));
            for (int key : new int[] {4, 13, 22}) {
                Check.yes("remove: the rest", x.remove(0, key));
            }
            Check.no("remove: empty", x.remove(0, 4));
            removeEachPlace(kind);
            for (int m : NO_MAPS) {
                Check.illegal("remove: map", () -> x.remove(m, 1));
            }
        }
    }

    /** Of 1 .. 15 one after the other is removed: the others keep their values, wherever they stand. */
    private static void removeEachPlace(int kind) {
        for (int gone = 1; gone <= 15; gone++) {
            TreeFamily x = Scene.withKeys(kind, 0, 8, 4, 12, 2, 6, 10, 14, 1, 3, 5, 7, 9, 11, 13, 15);
            Check.yes("remove: one of 15", x.remove(0, gone));
            Check.outOfBounds("remove: it is gone", keyGetter(x, gone));
            for (int key = 1; key <= 15; key++) {
                Check.same("remove: values stay", key == gone ? key : x.get(0, key) / 10, key);
            }
            Check.same("remove: sum", 1200 - 10 * gone, x.sum(0, 16));
            Check.yes("remove: audit", x.audit(0));
        }
    }

    private static Check.Act keyGetter(TreeFamily x, int key) {
        return () -> x.get(0, key);
    }

    private static void promise5Get() {
        for (int kind = 0; kind < 4; kind++) {
            TreeFamily x = Scene.withKeys(kind, 2, 4, 9, -3);
            Check.same("get: key", 90, x.get(0, 9));
            Check.same("get: alike", 90, x.get(0, 8));
            Check.same("get: alike below 0", -30, x.get(0, -1));
            Check.outOfBounds("get: none", () -> x.get(0, 0));
            x.make(0, kind, 1);
            Check.outOfBounds("get: empty", () -> x.get(0, 4));
            x.put(0, MIN, MAX);
            x.put(0, MAX, MIN);
            Check.same("get: greatest value", MAX, x.get(0, MIN));
            Check.same("get: least value", MIN, x.get(0, MAX));
            for (int m : NO_MAPS) {
                Check.illegal("get: map", () -> x.get(m, 1));
            }
        }
    }

    private static String nearAll(TreeFamily x, int key) {
        StringBuilder all = new StringBuilder();
        for (int which = 0; which < 4; which++) {
            int w = which;
            String answer = Check.answer(() -> x.near(0, w, key));
            all.append(answer.startsWith("throws.IndexOut") ? "none" : answer).append(' ');
        }
        return all.toString();
    }

    private static void promise6Near() {
        for (int kind = 0; kind < 4; kind++) {
            TreeFamily x = Scene.withKeys(kind, 0, 10, 20, 30);
            Check.same("near: between", "10 20 10 20 ", nearAll(x, 15));
            Check.same("near: at one", "20 20 10 30 ", nearAll(x, 20));
            Check.same("near: at the first", "10 10 none 20 ", nearAll(x, 10));
            Check.same("near: at the last", "30 30 20 none ", nearAll(x, 30));
            Check.same("near: ahead of all", "none 10 none 10 ", nearAll(x, MIN));
            Check.same("near: behind all", "30 none 30 none ", nearAll(x, MAX));
            x = Scene.withKeys(kind, 1, 10, 20, 30);
            Check.same("near: order 1, between", "20 10 20 10 ", nearAll(x, 15));
            Check.same("near: order 1, at one", "20 20 30 10 ", nearAll(x, 20));
            Check.same("near: order 1, ahead of all", "none 30 none 30 ", nearAll(x, MAX));
            x = Scene.withKeys(kind, 2, -7, 2, 9);
            Check.same("near: order 2, alike", "2 2 -7 9 ", nearAll(x, 0));
            Check.same("near: order 2, between", "-7 2 -7 2 ", nearAll(x, -1));
            TreeFamily empty = Scene.withKeys(kind, 0);
            Check.same("near: empty", "none none none none ", nearAll(empty, 0));
            for (int which : new int[] {-1, 4, MIN, MAX}) {
                Check.illegal("near: which", () -> empty.near(0, which, 1));
            }
            for (int m : NO_MAPS) {
                Check.illegal("near: map", () -> empty.near(m, 0, 1));
            }
        }
    }

    private static void promise7Size() {
        TreeFamily x = new TreeFamily();
        Scene.fillUp(x, 1, 0, 60);
        Check.same("size: full", 60, x.size(1));
        Check.same("size: another map", 0, x.size(0));
        x.put(1, 5, 5);
        Check.same("size: new value", 60, x.size(1));
        x.remove(1, 5);
        Check.same("size: removed", 59, x.size(1));
        x.range(1, 2, 0, 10);
        Check.same("size: of the map, not of the range", 59, x.size(1));
        for (int m : NO_MAPS) {
            Check.illegal("size: map", () -> x.size(m));
        }
    }

    private static void promise8Rank() {
        for (int kind = 0; kind < 4; kind++) {
            TreeFamily x = Scene.withKeys(kind, 0, 10, 20, 30);
            Check.same("rank: least", 0, x.rank(0, MIN));
            Check.same("rank: at", 1, x.rank(0, 20));
            Check.same("rank: behind", 2, x.rank(0, 21));
            Check.same("rank: greatest", 3, x.rank(0, MAX));
            x = Scene.withKeys(kind, 1, 10, 20, 30);
            Check.same("rank: order 1", 2, x.rank(0, 10));
            Check.same("rank: order 1, greatest", 0, x.rank(0, MAX));
            x = Scene.withKeys(kind, 2, -5, -1, 1, 5);
            Check.same("rank: order 2", 2, x.rank(0, 3));
            Check.same("rank: order 2, below 0", 1, x.rank(0, -3));
            Check.same("rank: empty", 0, x.rank(1, 3));
            TreeFamily any = x;
            for (int m : NO_MAPS) {
                Check.illegal("rank: map", () -> any.rank(m, 1));
            }
        }
    }

    private static void promise9Select() {
        for (int kind = 0; kind < 4; kind++) {
            TreeFamily x = Scene.withKeys(kind, 1, 10, 30, 20);
            Check.same("select: first", 30, x.select(0, 0));
            Check.same("select: last", 10, x.select(0, 2));
            for (int i : new int[] {-1, 3, MIN, MAX}) {
                Check.outOfBounds("select: none", () -> x.select(0, i));
            }
            Check.outOfBounds("select: empty", () -> x.select(1, 0));
            for (int m : NO_MAPS) {
                Check.illegal("select: map first", () -> x.select(m, -1));
            }
        }
    }

    private static void promise10Sum() {
        for (int kind = 0; kind < 4; kind++) {
            TreeFamily x = Scene.withKeys(kind, 0, 1, 2, 3, 4);
            Check.same("sum: none", 0, x.sum(0, 1));
            Check.same("sum: without the key", 30, x.sum(0, 3));
            Check.same("sum: all", 100, x.sum(0, MAX));
            x.put(0, 2, -500);
            Check.same("sum: a new value", -490, x.sum(0, 3));
            x.remove(0, 1);
            Check.same("sum: removed", -500, x.sum(0, 3));
            x.make(0, kind, 1);
            Scene.fill(x, 0, 1, 2, 3, 4);
            Check.same("sum: order 1", 70, x.sum(0, 2));
            x.make(0, kind, 2);
            x.put(0, -1, 7);
            x.put(0, 1, 9);
            Check.same("sum: order 2", 7, x.sum(0, 3));
            x.make(0, kind, 0);
            for (int i = 0; i < 60; i++) {
                x.put(0, i, MAX);
            }
            Check.same("sum: beyond int", 60L * MAX, x.sum(0, 60));
            for (int i = 0; i < 60; i++) {
                x.put(0, i, MIN);
            }
            Check.same("sum: below int", 60L * MIN, x.sum(0, 60));
            for (int m : NO_MAPS) {
                Check.illegal("sum: map", () -> x.sum(m, 1));
            }
        }
    }

    private static void promise11Range() {
        TreeFamily x = Scene.withKeys(0, 0, 1, 2, 3, 4, 5);
        x.range(0, 3, 2, 4);
        Check.same("range: both", 2, x.within(0, 0));
        x.range(0, 1, 2, -100);
        Check.same("range: from first on", 4, x.within(0, 0));
        x.range(0, 2, 100, 2);
        Check.same("range: up to second", 1, x.within(0, 0));
        x.range(0, 3, 3, 3);
        Check.same("range: empty", 0, x.within(0, 0));
        x.range(0, 0, 3, 3);
        Check.same("range: none", 5, x.within(0, 0));
        x.range(0, 3, 2, 4);
        int changes = x.changes(0);
        for (int how : new int[] {-1, 4, 7, MIN, MAX}) {
            Check.illegal("range: how", () -> x.range(0, how, 1, 2));
        }
        Check.illegal("range: second before first", () -> x.range(0, 3, 3, 2));
        Check.illegal("range: far apart", () -> x.range(0, 3, MAX, MIN));
        Check.same("range: as it was", 2, x.within(0, 0));
        x.range(0, 3, MIN, MAX);
        Check.same("range: whole", 5, x.within(0, 0));
        Check.same("range: no change", changes, x.changes(0));
        for (int m : NO_MAPS) {
            Check.illegal("range: map", () -> x.range(m, 0, 1, 2));
        }
        x.make(1, 1, 1);
        Scene.fill(x, 1, 1, 2, 3, 4, 5);
        x.range(1, 3, 4, 2);
        Check.same("range: order 1", 2, x.within(1, 0));
        Check.illegal("range: order 1, second before first", () -> x.range(1, 3, 2, 4));
        x.make(2, 2, 2);
        x.range(2, 3, 7, 4);
        Check.illegal("range: order 2, second before first", () -> x.range(2, 3, 4, 3));
        Check.illegal("range: order 2, below 0", () -> x.range(2, 3, 0, -1));
        x.make(0, 0, 0);
        Scene.fill(x, 0, 1, 2, 3, 4, 5);
        Check.same("range: none after make", 5, x.within(0, 0));
    }

    private static void promise12Within() {
        for (int kind = 0; kind < 4; kind++) {
            TreeFamily x = Scene.withKeys(kind, 1, 10, 20, 30, 40);
            Check.same("within: all", 4, x.within(0, 0));
            Check.same("within: first of all", 40, x.within(0, 1));
            Check.same("within: last of all", 10, x.within(0, 2));
            x.range(0, 3, 30, 10);
            Check.same("within: count", 2, x.within(0, 0));
            Check.same("within: first is in it", 30, x.within(0, 1));
            Check.same("within: second is not", 20, x.within(0, 2));
            x.put(0, 25, 1);
            x.put(0, 9, 1);
            Check.same("within: what comes later is in it too", 3, x.within(0, 0));
            x.range(0, 3, 19, 11);
            Check.same("within: none", 0, x.within(0, 0));
            Check.outOfBounds("within: no first", () -> x.within(0, 1));
            Check.outOfBounds("within: no last", () -> x.within(0, 2));
            Check.same("within: empty map", 0, x.within(1, 0));
            Check.outOfBounds("within: empty map, no first", () -> x.within(1, 1));
            for (int what : new int[] {-1, 3, MIN, MAX}) {
                Check.illegal("within: what", () -> x.within(0, what));
            }
            for (int m : NO_MAPS) {
                Check.illegal("within: map", () -> x.within(m, 1));
            }
            x.make(2, kind, 2);
            Scene.fill(x, 2, 3, 7, 11);
            x.range(2, 3, 6, 10);
            Check.same("within: order 2", 1, x.within(2, 0));
            Check.same("within: order 2, first", 7, x.within(2, 1));
        }
    }

    private static void promise13PutWithin() {
        TreeFamily x = Scene.withKeys(0, 0, 10, 20);
        Check.yes("putWithin: no range", x.putWithin(0, MIN, 1));
        x.range(0, 3, 10, 20);
        Check.yes("putWithin: new", x.putWithin(0, 15, 1));
        Check.no("putWithin: first", x.putWithin(0, 10, 2));
        Check.same("putWithin: value", 2, x.get(0, 10));
        Check.illegal("putWithin: second", () -> x.putWithin(0, 20, 3));
        Check.illegal("putWithin: ahead", () -> x.putWithin(0, 9, 3));
        Check.same("putWithin: what throws changes nothing", "[-2147483648, 10, 15, 20]", Scene.keys(x, 0));
        Check.same("putWithin: nor the value", 200, x.get(0, 20));
        Check.same("putWithin: changes", 5, x.changes(0));
        x.range(0, 1, 10, 0);
        Check.yes("putWithin: no end", x.putWithin(0, MAX, 1));
        x.range(0, 2, 0, 10);
        Check.yes("putWithin: no beginning", x.putWithin(0, 9, 1));
        Check.illegal("putWithin: no beginning, second", () -> x.putWithin(0, 10, 1));
        x.make(1, 0, 2);
        x.range(1, 3, 6, 10);
        Check.yes("putWithin: order 2, alike to first", x.putWithin(1, 4, 1));
        Check.illegal("putWithin: order 2, alike to second", () -> x.putWithin(1, 8, 1));
        x.make(2, 0, 0);
        Scene.fillUp(x, 2, 0, 60);
        Check.outOfBounds("putWithin: the 61st", () -> x.putWithin(2, 60, 1));
        x.range(2, 2, 0, 60);
        Check.illegal("putWithin: not in range comes first", () -> x.putWithin(2, 60, 1));
        Check.no("putWithin: new value in a full map", x.putWithin(2, 59, 1));
        for (int m : NO_MAPS) {
            Check.illegal("putWithin: map", () -> x.putWithin(m, 1, 1));
        }
    }

    private static void promise14Poll() {
        for (int kind = 0; kind < 4; kind++) {
            TreeFamily x = Scene.withKeys(kind, 0, 1, 2, 3, 4, 5, 6);
            Check.same("poll: last of all", 6, x.poll(0, true));
            Check.same("poll: first of all", 1, x.poll(0, false));
            x.range(0, 3, 3, 5);
            Check.same("poll: last in range", 4, x.poll(0, true));
            Check.same("poll: first in range", 3, x.poll(0, false));
            Check.outOfBounds("poll: none in range", () -> x.poll(0, false));
            Check.outOfBounds("poll: no last one either", () -> x.poll(0, true));
            Check.same("poll: the rest", "[2, 5]", Scene.keys(x, 0));
            Check.same("poll: changes", 11, x.changes(0));
            for (int m : NO_MAPS) {
                Check.illegal("poll: map", () -> x.poll(m, true));
            }
            TreeFamily y = Scene.withKeys(kind, 1, 1, 2, 3);
            Check.same("poll: order 1", 3, y.poll(0, false));
            Check.same("poll: order 1, last", 1, y.poll(0, true));
        }
    }

    private static void promise15Iterate() {
        TreeFamily x = Scene.withKeys(3, 0, 1, 2, 3, 4, 5);
        x.range(0, 3, 2, 5);
        x.iterate(0, false);
        x.range(0, 0, 0, 0);
        Check.same("iterate: the range as it was", 2, x.next(0));
        x.iterate(0, true);
        Check.badState("iterate: a new one has given none", () -> x.drop(0));
        Check.same("iterate: back, in place of the other", 5, x.next(0));
        x.range(0, 1, 4, 0);
        Check.same("iterate: beyond the range of now", 4, x.next(0));
        Check.same("iterate: still", 3, x.next(0));
        x.put(0, 9, 9);
        Check.badState("iterate: changed", () -> x.next(0));
        x.iterate(0, false);
        Check.same("iterate: knows the changes of now", 4, x.next(0));
        int changes = x.changes(0);
        x.iterate(0, false);
        Check.same("iterate: no change", changes, x.changes(0));
        x.range(0, 3, 6, 7);
        x.iterate(0, true);
        Check.outOfBounds("iterate: none in range", () -> x.next(0));
        for (int m : NO_MAPS) {
            Check.illegal("iterate: map", () -> x.iterate(m, true));
        }
    }

    private static void promise16Next() {
        TreeFamily x = Scene.withKeys(2, 1, 1, 2, 3);
        Check.badState("next: no iterator", () -> x.next(0));
        x.iterate(0, false);
        Check.same("next: first", 3, x.next(0));
        Check.no("next: a new value is no change", x.put(0, 2, 77));
        Check.no("next: nor one that is not there", x.remove(0, 9));
        Check.same("next: a union of the same keys neither", 0, x.join(0, 0, 0));
        Check.same("next: nor an intersection", 0, x.join(0, 0, 1));
        Check.same("next: second", 2, x.next(0));
        Check.same("next: nor a split of none", 0, x.split(0, 0, 1));
        Check.same("next: third", 1, x.next(0));
        Check.outOfBounds("next: none more", () -> x.next(0));
        Check.outOfBounds("next: still none", () -> x.next(0));
        x.put(0, 0, 0);
        Check.badState("next: changed comes before none more", () -> x.next(0));
        x.remove(0, 0);
        Check.badState("next: the same entries, other changes", () -> x.next(0));
        x.iterate(0, true);
        Check.same("next: back", 1, x.next(0));
        x.poll(0, false);
        Check.badState("next: polled", () -> x.next(0));
        x.iterate(0, true);
        x.put(2, 1, 1);
        Check.same("next: another map's changes do not count", 1, x.next(0));
        x.split(0, 1, 2);
        Check.badState("next: split", () -> x.next(0));
        x.iterate(0, false);
        x.make(0, 0, 0);
        Check.badState("next: none after make", () -> x.next(0));
        for (int m : NO_MAPS) {
            Check.illegal("next: map first", () -> x.next(m));
        }
    }

    private static void promise17Drop() {
        TreeFamily x = Scene.withKeys(0, 0, 1, 2, 3, 4, 5, 6);
        Check.badState("drop: no iterator", () -> x.drop(0));
        x.range(0, 3, 2, 6);
        x.iterate(0, false);
        Check.badState("drop: none given", () -> x.drop(0));
        x.next(0);
        x.next(0);
        x.drop(0);
        Check.same("drop: removed", "[1, 2, 4, 5, 6]", Scene.keys(x, 0));
        Check.same("drop: changes", 8, x.changes(0));
        Check.badState("drop: dropped", () -> x.drop(0));
        Check.same("drop: goes on", 4, x.next(0));
        Check.same("drop: to the last", 5, x.next(0));
        Check.outOfBounds("drop: not beyond the range", () -> x.next(0));
        x.drop(0);
        Check.same("drop: the latest, though none is more", "[1, 2, 4, 6]", Scene.keys(x, 0));
        Check.outOfBounds("drop: none more still", () -> x.next(0));
        x.iterate(0, true);
        Check.same("drop: back", 4, x.next(0));
        x.drop(0);
        Check.same("drop: back, goes on", 2, x.next(0));
        x.drop(0);
        Check.outOfBounds("drop: back, none more", () -> x.next(0));
        Check.same("drop: back, removed", "[1, 6]", Scene.keys(x, 0));
        x.range(0, 0, 0, 0);
        x.iterate(0, false);
        x.next(0);
        x.put(0, 8, 8);
        Check.badState("drop: changed", () -> x.drop(0));
        Check.same("drop: what throws changes nothing", "[1, 6, 8]", Scene.keys(x, 0));
        x.iterate(0, false);
        x.next(0);
        x.make(0, 0, 0);
        Check.badState("drop: none after make", () -> x.drop(0));
        for (int m : NO_MAPS) {
            Check.illegal("drop: map", () -> x.drop(m));
        }
    }

    private static void promise18Join() {
        for (int kind = 0; kind < 4; kind++) {
            joinByOps(kind);
            joinWithItself(kind);
            joinToTheBrim(kind);
        }
        TreeFamily x = new TreeFamily();
        x.make(1, 0, 1);
        x.make(2, 0, 2);
        Check.illegal("join: other orders", () -> x.join(0, 1, 0));
        Check.illegal("join: orders 0 and 2", () -> x.join(0, 2, 1));
        for (int op : new int[] {-1, 3, MIN, MAX}) {
            Check.illegal("join: op", () -> x.join(0, 0, op));
        }
        for (int m : NO_MAPS) {
            Check.illegal("join: map", () -> x.join(m, 0, 0));
            Check.illegal("join: other map", () -> x.join(0, m, 0));
        }
    }

    private static void joinByOps(int kind) {
        TreeFamily x = new TreeFamily();
        String[] keys = {"[0, 6, 9, 12]", "[6, 9]", "[0]"};
        String[] values = {"[0, 125, 190, 2]", "[125, 190]", "[0]"};
        int[] moved = {1, 1, 2};
        for (int op = 0; op < 3; op++) {
            x.make(0, kind, 2);
            x.make(1, 3 - kind, 2);
            Scene.fill(x, 0, 0, 6, 9);
            x.put(1, 4, 5);
            x.put(1, 10, 10);
            x.put(1, 12, 2);
            x.range(0, 1, 8, 0);
            int changes = x.changes(0);
            int others = x.changes(1);
            Check.same("join: came or went", moved[op], x.join(0, 1, op));
            Check.same("join: keys are m's", keys[op], Scene.keys(x, 0));
            Check.same("join: values", values[op], Scene.values(x, 0));
            Check.same("join: changes", changes + moved[op], x.changes(0));
            Check.same("join: the other one stays", "[4, 10, 12]", Scene.keys(x, 1));
            Check.same("join: its values too", "[5, 10, 2]", Scene.values(x, 1));
            Check.same("join: its changes too", others, x.changes(1));
            Check.same("join: the range stays", op == 0 ? 2 : op == 1 ? 1 : 0, x.within(0, 0));
            Check.yes("join: audit", x.audit(0) && x.audit(1));
        }
        x.make(0, kind, 0);
        x.make(1, kind, 0);
        x.put(0, 1, MAX);
        x.put(1, 1, MAX);
        x.join(0, 1, 0);
        Check.same("join: values wrap around", 2 * MAX + MAX, x.get(0, 1));
    }

    private static void joinWithItself(int kind) {
        TreeFamily x = Scene.withKeys(kind, 1, 1, 2, 3, 4, 5);
        int changes = x.changes(0);
        Check.same("join: union with itself", 0, x.join(0, 0, 0));
        Check.same("join: three times the value", "[150, 120, 90, 60, 30]", Scene.values(x, 0));
        Check.same("join: intersection with itself", 0, x.join(0, 0, 1));
        Check.same("join: three times again", "[450, 360, 270, 180, 90]", Scene.values(x, 0));
        Check.same("join: sums too", 1260, x.sum(0, 1));
        Check.same("join: no change", changes, x.changes(0));
        Check.same("join: difference with itself", 5, x.join(0, 0, 2));
        Check.same("join: empty", "[]", Scene.keys(x, 0));
        Check.same("join: five changes", changes + 5, x.changes(0));
    }

    private static void joinToTheBrim(int kind) {
        TreeFamily x = Scene.withKeys(kind, 0);
        Scene.fillUp(x, 0, 0, 40);
        Scene.fillUp(x, 1, 20, 40);
        Check.same("join: 60 in all", 20, x.join(0, 1, 0));
        Check.same("join: a full map", 0, x.join(0, 1, 0));
        x.put(2, 59, 0);
        x.put(2, 60, 0);
        int changes = x.changes(0);
        String values = Scene.values(x, 0);
        Check.outOfBounds("join: the 61st", () -> x.join(0, 2, 0));
        Check.same("join: what throws changes nothing", values, Scene.values(x, 0));
        Check.same("join: nor changes", changes, x.changes(0));
        Check.same("join: fewer are fine", 59, x.join(0, 2, 1));
        x.make(2, 0, 1);
        Scene.fillUp(x, 1, 100, 20);
        Scene.fillUp(x, 2, 0, 60);
        Check.illegal("join: orders come first", () -> x.join(1, 2, 0));
    }

    private static void promise19Split() {
        for (int kind = 0; kind < 4; kind++) {
            TreeFamily x = Scene.withKeys(kind, 2, -9, -5, 1, 6, 8, 15);
            x.put(1, 77, 7);
            x.range(1, kind % 2 + 1, 100, 0);
            x.iterate(1, false);
            x.range(0, 2, 0, 8);
            int from = x.changes(0);
            int into = x.changes(1);
            Check.same("split: how many", 3, x.split(0, 7, 1));
            Check.same("split: what stays", "[-9, -5, 1]", Scene.keys(x, 0));
            Check.same("split: what comes", "[6, 8, 15]", Scene.keys(x, 1));
            Check.same("split: with values", "[60, 80, 150]", Scene.values(x, 1));
            Check.same("split: m's changes", from + 3, x.changes(0));
            Check.same("split: into's changes", into + 4, x.changes(1));
            Check.same("split: m's range stays", 3, x.within(0, 0));
            x.put(0, 9, 9);
            Check.same("split: m's range still ends", 3, x.within(0, 0));
            Check.same("split: into has no range", 3, x.within(1, 0));
            Check.badState("split: into has no iterator", () -> x.next(1));
            Check.no("split: into has m's order", x.put(1, 12, 1));
            Check.yes("split: audit", x.audit(0) && x.audit(1));
            into = x.changes(1);
            x.iterate(0, false);
            x.next(0);
            Check.same("split: none", 0, x.split(0, MAX, 1));
            Check.same("split: into is empty", 0, x.size(1));
            Check.same("split: as with make", into + 1, x.changes(1));
            x.drop(0);
            Check.same("split: none, m's iterator goes on", -5, x.next(0));
            x.range(0, 0, 0, 0);
            Check.same("split: all", 3, x.split(0, MIN, 2));
            Check.same("split: m is empty", 0, x.size(0));
            Check.same("split: all are there", "[-5, 1, 9]", Scene.keys(x, 2));
            Check.badState("split: m's iterator fails", () -> x.next(0));
            int changes = x.changes(2);
            Check.illegal("split: into itself", () -> x.split(2, 0, 2));
            for (int m : NO_MAPS) {
                Check.illegal("split: map", () -> x.split(m, 0, 2));
                Check.illegal("split: into", () -> x.split(2, 0, m));
                Check.illegal("split: both", () -> x.split(m, 0, m));
            }
            Check.same("split: what throws changes nothing", "[-5, 1, 9]", Scene.keys(x, 2));
            Check.same("split: nor changes", changes, x.changes(2));
            x.make(0, kind, 1);
            Scene.fill(x, 0, 1, 2, 3, 4);
            Check.same("split: order 1", 2, x.split(0, 2, 1));
            Check.same("split: order 1, keys", "[2, 1]", Scene.keys(x, 1));
        }
    }

    private static void promise20Changes() {
        TreeFamily x = new TreeFamily();
        Scene.fillUp(x, 0, 0, 60);
        Check.same("changes: puts", 60, x.changes(0));
        x.put(0, 1, 1);
        Check.same("changes: a new value", 60, x.changes(0));
        x.make(0, 1, 1);
        Check.same("changes: make counts one", 61, x.changes(0));
        x.make(0, 1, 1);
        Check.same("changes: of an empty map too", 62, x.changes(0));
        x.put(0, 1, 1);
        x.remove(0, 1);
        x.remove(0, 1);
        Check.same("changes: came and went", 64, x.changes(0));
        Check.same("changes: another map", 0, x.changes(1));
        for (int m : NO_MAPS) {
            Check.illegal("changes: map", () -> x.changes(m));
        }
    }

    private static void promise21Audit() {
        for (int kind = 0; kind < 4; kind++) {
            TreeFamily x = new TreeFamily();
            x.make(0, kind, 0);
            for (int i = 0; i < 60; i++) {
                x.put(0, i, i);
                Check.yes("audit: upwards", x.audit(0));
            }
            for (int i = 0; i < 60; i++) {
                x.remove(0, i * 7 % 60);
                Check.yes("audit: removed", x.audit(0));
            }
            for (int i = 0; i < 60; i++) {
                x.put(0, -i, i);
                Check.yes("audit: downwards", x.audit(0));
            }
            for (int i = 0; i < 60; i++) {
                x.poll(0, i % 3 == 0);
                Check.yes("audit: polled", x.audit(0));
            }
            for (int m : NO_MAPS) {
                Check.illegal("audit: map", () -> x.audit(m));
            }
        }
    }
}
