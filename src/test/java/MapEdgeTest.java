/** The edges that promises 1 to 10 name, a test to each sentence. */
public final class MapEdgeTest {
    private static final int MIN = Scene.MIN;
    private static final int MAX = Scene.MAX;

    public static void main(String[] args) {
        Check.sentence("1: Empty maps of kind 0 and order 0, without ranges and iterators.", MapEdgeTest::newObject);
        Check.sentence("2: Map m is empty, of that kind and order.", MapEdgeTest::makeEmpties);
        Check.sentence("2: make(), of another map", MapEdgeTest::makeOfAnotherMap);
        Check.sentence("2: make(), refused", MapEdgeTest::makeRefused);
        Check.sentence("3: Puts a key: whether it is a new entry.", MapEdgeTest::putTellsWhatIsNew);
        Check.sentence("3: IndexOutOfBoundsException: it would be the 61st.", MapEdgeTest::putThe61st);
        Check.sentence("3: put() in a full map that is not refused", MapEdgeTest::putInAFullMap);
        Check.sentence("4: Removes the entry of a key alike: whether there was one.", MapEdgeTest::removeTells);
        Check.sentence("4: remove() in an empty map", MapEdgeTest::removeFromAnEmptyMap);
        Check.sentence("4: remove() of all 60", MapEdgeTest::removeAll);
        Check.sentence("5: The value of the entry of a key alike.", MapEdgeTest::getAlike);
        Check.sentence("5: IndexOutOfBoundsException: there is none.", MapEdgeTest::getNone);
        Check.sentence("6: which 0 the last one that does not go behind it", () -> near(0));
        Check.sentence("6: 1 the first one that does not go before it", () -> near(1));
        Check.sentence("6: 2 the last one that goes before it", () -> near(2));
        Check.sentence("6: 3 the first one that it goes before", () -> near(3));
        Check.sentence("6: IndexOutOfBoundsException: there is none.", MapEdgeTest::nearNone);
        Check.sentence("6: near() at the least and the greatest key", MapEdgeTest::nearTheEndsOfInt);
        Check.sentence("7: How many entries there are.", MapEdgeTest::size);
        Check.sentence("8: How many entries have keys that go before a key.", MapEdgeTest::rank);
        Check.sentence("9: The key of entry i, in order, from 0.", MapEdgeTest::select);
        Check.sentence("9: IndexOutOfBoundsException: there is none.", MapEdgeTest::selectNone);
        Check.sentence("10: all entries whose keys go before a key", MapEdgeTest::sumOfWhatGoesBefore);
        Check.sentence("10: long sum", MapEdgeTest::sumBeyondInt);
        Check.end();
    }

    private static void newObject() {
        for (int m = 0; m < 3; m++) {
            int map = m;
            TreeFamily x = new TreeFamily();
            Check.same("size", 0, x.size(m));
            Check.same("rank", 0, x.rank(m, MAX));
            Check.same("sum", 0, x.sum(m, MAX));
            Check.same("in range", 0, x.within(m, 0));
            Check.same("changes", 0, x.changes(m));
            Check.yes("audit", x.audit(m));
            Check.outOfBounds("select", () -> x.select(map, 0));
            Check.outOfBounds("get", () -> x.get(map, 0));
            Check.outOfBounds("poll", () -> x.poll(map, true));
            Check.badState("next", () -> x.next(map));
            Check.badState("drop", () -> x.drop(map));
            Check.no("remove", x.remove(m, 0));
            Check.yes("no range, greatest key", x.putWithin(m, MAX, 1));
            Check.yes("no range, least key", x.putWithin(m, MIN, 2));
            Check.yes("not order 2", x.put(m, MIN + 1, 3));
            Check.same("order 0", "[2, 3, 1]", Scene.values(x, m));
            Check.same("another map", 0, x.size((m + 1) % 3));
            Check.same("another object", 0, new TreeFamily().size(m));
        }
    }

    private static void makeEmpties() {
        String[] inOrder = {"[-1, 0, 1, 5]", "[5, 1, 0, -1]", "[-1, 0, 5]"};
        Scene.everyWay((kind, order) -> {
            for (int count : new int[] {0, 1, 60}) {
                for (int before = 0; before < 3; before++) {
                    TreeFamily x = Scene.row(kind, before, count);
                    x.make(0, 3 - kind, order);
                    Check.same("size", 0, x.size(0));
                    Check.same("sum", 0, x.sum(0, order == 1 ? MIN : MAX));
                    for (int key : new int[] {0, 5, -1, 1}) {
                        x.put(0, key, 1);
                    }
                    Check.same("order", inOrder[order], Scene.keys(x, 0));
                    Check.yes("audit", x.audit(0));
                }
            }
            TreeFamily x = Scene.row(kind, order, 60);
            x.make(0, kind, order);
            Scene.putRow(x, 0, order, 0, 60);
            Check.same("room for 60 again", 60, x.size(0));
        });
    }

    private static void makeOfAnotherMap() {
        Scene.everyWay((kind, order) -> {
            TreeFamily x = Scene.after(Scene.busy(kind, order));
            int changes = x.changes(0);
            x.make(1, 3 - kind, 2 - order);
            x.make(2, kind, order);
            Check.same("entries", Scene.rowKeys(order, 0, 1, 2, 3, 4, 5), Scene.keys(x, 0));
            Check.same("range", 4, x.within(0, 0));
            Check.same("changes", changes, x.changes(0));
            Check.same("iterator", Scene.key(order, 2), x.next(0));
        });
    }

    private static void makeRefused() {
        Scene.everyWay((kind, order) -> {
            Scene.Deed busy = Scene.busy(kind, order);
            for (int none : Scene.NOT_0_TO_3) {
                Refusal.illegal("kind", busy, x -> x.make(0, none, (order + 1) % 3));
                Refusal.illegal("kind and order", busy, x -> x.make(0, none, none));
            }
            for (int none : Scene.NOT_0_TO_2) {
                Refusal.illegal("order", busy, x -> x.make(0, 3 - kind, none));
                Refusal.illegal("map", busy, x -> x.make(none, kind, (order + 1) % 3));
            }
        });
    }

    private static void putTellsWhatIsNew() {
        Scene.everyWay((kind, order) -> {
            TreeFamily x = new TreeFamily();
            x.make(0, kind, order);
            Check.yes("in an empty map", x.put(0, Scene.key(order, 0), 1));
            Check.no("again", x.put(0, Scene.key(order, 0), 1));
            Check.no("alike", x.put(0, Scene.alike(order, 0), 2));
            Check.yes("just behind", x.put(0, Scene.between(order, 0), 3));
            Check.yes("just ahead", x.put(0, Scene.between(order, -1), 4));
            x.remove(0, Scene.key(order, 0));
            Check.yes("when it was removed", x.put(0, Scene.alike(order, 0), 5));
            Check.same("then the key is the new one", Scene.alike(order, 0), x.select(0, 1));
            x.make(0, kind, order);
            Check.yes("when the map was made anew", x.put(0, Scene.key(order, 0), 6));
        });
    }

    private static void putThe61st() {
        Scene.everyWay((kind, order) -> {
            Scene.Deed full = Scene.full(kind, order);
            Refusal.outOfBounds("ahead of all", full, x -> x.put(0, Scene.between(order, -1), 1));
            Refusal.outOfBounds("between", full, x -> x.put(0, Scene.between(order, 30), 1));
            Refusal.outOfBounds("behind all", full, x -> x.put(0, Scene.between(order, 59), 1));
            Refusal.outOfBounds("the least key", full, x -> x.put(0, MIN, 1));
            Refusal.outOfBounds("the greatest key", full, x -> x.put(0, MAX, 1));
            TreeFamily x = Scene.row(kind, order, 59);
            Check.yes("the 60th is not refused", x.put(0, Scene.key(order, 59), 1));
        });
    }

    private static void putInAFullMap() {
        Scene.everyWay((kind, order) -> {
            TreeFamily x = Scene.row(kind, order, 60);
            for (int i = 0; i < 60; i++) {
                Check.no("a new value", x.put(0, Scene.alike(order, i), i));
                Check.same("it is there", i, x.get(0, Scene.key(order, i)));
            }
            for (int i = 0; i < 60; i += 7) {
                Check.yes("one goes", x.remove(0, Scene.key(order, i)));
                Check.yes("another comes", x.put(0, Scene.between(order, i), 1));
                Check.outOfBounds("and no more", () -> x.put(0, MIN, 1));
            }
            Check.yes("another map has room", x.put(1, 0, 0));
        });
    }

    private static void removeTells() {
        Scene.everyWay((kind, order) -> {
            TreeFamily x = Scene.row(kind, order, 5);
            for (int i = -1; i <= 5; i++) {
                Check.no("between", x.remove(0, Scene.between(order, i)));
            }
            Check.no("the least key", x.remove(0, MIN));
            Check.no("the greatest key", x.remove(0, MAX));
            Check.same("nothing has changed", 6, x.changes(0));
            Check.yes("alike", x.remove(0, Scene.alike(order, 2)));
            Check.no("twice", x.remove(0, Scene.key(order, 2)));
            Check.same("the others", Scene.rowValues(0, 1, 3, 4), Scene.values(x, 0));
            x.put(0, MIN, 7);
            x.put(0, MAX, 8);
            Check.yes("the least key that is there", x.remove(0, MIN));
            Check.yes("the greatest key that is there", x.remove(0, MAX));
            Check.same("still the others", Scene.rowKeys(order, 0, 1, 3, 4), Scene.keys(x, 0));
        });
    }

    private static void removeFromAnEmptyMap() {
        Scene.everyWay((kind, order) -> {
            TreeFamily x = Scene.row(kind, order, 0);
            Check.no("never any", x.remove(0, 0));
            x.put(0, 0, 0);
            Check.yes("the only one", x.remove(0, 0));
            Check.no("none left", x.remove(0, 0));
            Check.same("size", 0, x.size(0));
            Check.same("changes", 3, x.changes(0));
            Check.yes("audit", x.audit(0));
        });
    }

    private static void removeAll() {
        int[] strides = {1, 59, 7, 31};
        Scene.everyWay((kind, order) -> {
            for (int stride : strides) {
                TreeFamily x = Scene.row(kind, order, 60);
                for (int i = 1; i <= 60; i++) {
                    Check.yes("remove", x.remove(0, Scene.key(order, i * stride % 60)));
                    Check.same("size", 60 - i, x.size(0));
                    Check.yes("audit", x.audit(0));
                }
                Check.same("none left", 0, x.sum(0, order == 1 ? MIN : MAX));
                Scene.putRow(x, 0, order, 0, 60);
                Check.same("room for 60 again", 60, x.size(0));
            }
        });
    }

    private static void getAlike() {
        Scene.everyWay((kind, order) -> {
            TreeFamily x = Scene.row(kind, order, 60);
            for (int i = 0; i < 60; i++) {
                Check.same("key", Scene.value(i), x.get(0, Scene.key(order, i)));
                Check.same("alike", Scene.value(i), x.get(0, Scene.alike(order, i)));
            }
        });
    }

    private static void getNone() {
        Scene.everyWay((kind, order) -> {
            Scene.Deed busy = Scene.busy(kind, order);
            for (int i = -1; i < 6; i++) {
                int key = Scene.between(order, i);
                Refusal.outOfBounds("between", busy, x -> x.get(0, key));
            }
            Refusal.outOfBounds("the least key", busy, x -> x.get(0, MIN));
            Refusal.outOfBounds("the greatest key", busy, x -> x.get(0, MAX));
            Refusal.outOfBounds("an empty map", x -> x.make(0, kind, order), x -> x.get(0, 0));
            Scene.Deed removed = x -> {
                busy.on(x);
                x.remove(0, Scene.key(order, 3));
            };
            Refusal.outOfBounds("removed", removed, x -> x.get(0, Scene.key(order, 3)));
        });
    }

    /**
     * Five entries, asked for at each of them, between any two and beyond both ends. The places are
     * counted by halves: 2 * i is key i, 2 * i + 1 between it and the next.
     */
    private static void near(int which) {
        Scene.everyWay((kind, order) -> {
            TreeFamily x = Scene.row(kind, order, 5);
            for (int half = -3; half <= 11; half++) {
                int i = Math.floorDiv(half, 2);
                boolean isAt = half % 2 == 0;
                int last = which == 2 && isAt ? i - 1 : i;
                int first = which == 1 && isAt ? i : i + 1;
                int place = which % 2 == 0 ? Math.min(last, 4) : Math.max(first, 0);
                String due = place < 0 || place > 4
                        ? "throws.IndexOutOfBoundsException"
                        : String.valueOf(Scene.key(order, place));
                int key = isAt ? Scene.alike(order, i) : Scene.between(order, i);
                Check.same("at half " + half, due, Check.answer(() -> x.near(0, which, key)));
            }
        });
    }

    private static void nearNone() {
        Scene.everyWay((kind, order) -> {
            Scene.Deed busy = Scene.busy(kind, order);
            for (int which = 0; which < 4; which++) {
                int asked = which;
                Refusal.outOfBounds("an empty map", x -> x.make(0, kind, order), x -> x.near(0, asked, 0));
            }
            Refusal.outOfBounds("0 ahead of all", busy, x -> x.near(0, 0, Scene.between(order, -1)));
            Refusal.outOfBounds("1 behind all", busy, x -> x.near(0, 1, Scene.between(order, 5)));
            Refusal.outOfBounds("2 at the first", busy, x -> x.near(0, 2, Scene.alike(order, 0)));
            Refusal.outOfBounds("3 at the last", busy, x -> x.near(0, 3, Scene.alike(order, 5)));
        });
    }

    private static void nearTheEndsOfInt() {
        Scene.everyWay((kind, order) -> {
            TreeFamily x = new TreeFamily();
            x.make(0, kind, order);
            x.put(0, MIN, 1);
            x.put(0, MAX, 2);
            int first = order == 1 ? MAX : MIN;
            int last = order == 1 ? MIN : MAX;
            Check.same("0 at the first", first, x.near(0, 0, first));
            Check.same("1 at the first", first, x.near(0, 1, first));
            Check.outOfBounds("2 at the first", () -> x.near(0, 2, first));
            Check.same("3 at the first", last, x.near(0, 3, first));
            Check.same("0 at the last", last, x.near(0, 0, last));
            Check.same("1 at the last", last, x.near(0, 1, last));
            Check.same("2 at the last", first, x.near(0, 2, last));
            Check.outOfBounds("3 at the last", () -> x.near(0, 3, last));
            Check.same("0 between", first, x.near(0, 0, 0));
            Check.same("1 between", last, x.near(0, 1, 0));
            Check.same("2 between", first, x.near(0, 2, 0));
            Check.same("3 between", last, x.near(0, 3, 0));
        });
    }

    private static void size() {
        Scene.everyWay((kind, order) -> {
            TreeFamily x = new TreeFamily();
            x.make(0, kind, order);
            Check.same("none", 0, x.size(0));
            for (int i = 0; i < 60; i++) {
                x.put(0, Scene.key(order, i), i);
                x.put(0, Scene.alike(order, i), i);
                Check.same("entries", i + 1, x.size(0));
            }
            x.range(0, 3, 0, 0);
            Check.same("whatever the range", 60, x.size(0));
            Check.outOfBounds("the 61st is refused", () -> x.put(0, MIN, 1));
            Check.same("and does not count", 60, x.size(0));
        });
    }

    private static void rank() {
        Scene.everyWay((kind, order) -> {
            TreeFamily x = Scene.row(kind, order, 60);
            int first = order == 1 ? MAX : MIN;
            int last = order == 1 ? MIN : MAX;
            Check.same("before all", 0, x.rank(0, first));
            Check.same("behind all", 60, x.rank(0, last));
            for (int i = 0; i < 60; i++) {
                Check.same("a key itself does not count", i, x.rank(0, Scene.key(order, i)));
                Check.same("nor does one alike", i, x.rank(0, Scene.alike(order, i)));
                Check.same("between", i + 1, x.rank(0, Scene.between(order, i)));
            }
            Check.same("an empty map", 0, x.rank(1, last));
            x.remove(0, Scene.key(order, 0));
            x.put(0, last, 1);
            Check.same("the last of all does not go before itself", 59, x.rank(0, last));
        });
    }

    private static void select() {
        Scene.everyWay((kind, order) -> {
            for (int count : new int[] {1, 2, 60}) {
                TreeFamily x = Scene.row(kind, order, count);
                for (int i = 0; i < count; i++) {
                    Check.same("entry " + i, Scene.key(order, i), x.select(0, i));
                }
            }
        });
    }

    private static void selectNone() {
        Scene.everyWay((kind, order) -> {
            for (int i : new int[] {-1, 6, 60, MIN, MAX}) {
                Refusal.outOfBounds("entry " + i + " of 6", Scene.busy(kind, order), x -> x.select(0, i));
            }
            for (int i : new int[] {-1, 60, 61, MIN, MAX}) {
                Refusal.outOfBounds("entry " + i + " of 60", Scene.full(kind, order), x -> x.select(0, i));
            }
            for (int i : new int[] {-1, 0, 1, MIN, MAX}) {
                Refusal.outOfBounds("entry " + i + " of none", x -> x.make(0, kind, order), x -> x.select(0, i));
            }
        });
    }

    private static void sumOfWhatGoesBefore() {
        Scene.everyWay((kind, order) -> {
            TreeFamily x = Scene.row(kind, order, 60);
            long due = 0;
            Check.same("before all", 0, x.sum(0, order == 1 ? MAX : MIN));
            for (int i = 0; i < 60; i++) {
                Check.same("without the key's own value", due, x.sum(0, Scene.key(order, i)));
                Check.same("nor that of one alike", due, x.sum(0, Scene.alike(order, i)));
                due += Scene.value(i);
                Check.same("between", due, x.sum(0, Scene.between(order, i)));
            }
            Check.same("behind all", due, x.sum(0, order == 1 ? MIN : MAX));
            Check.same("an empty map", 0, x.sum(1, 0));
            x.put(0, Scene.key(order, 0), -1);
            Check.same("a new value", due - Scene.value(0) - 1, x.sum(0, Scene.key(order, 60)));
            x.remove(0, Scene.key(order, 59));
            Check.same("one removed", due - Scene.value(0) - Scene.value(59) - 1, x.sum(0, Scene.key(order, 60)));
        });
    }

    private static void sumBeyondInt() {
        Scene.everyWay((kind, order) -> {
            for (int value : new int[] {MIN, MAX}) {
                TreeFamily x = Scene.row(kind, order, 0);
                for (int i = 0; i < 60; i++) {
                    x.put(0, Scene.key(order, i), value);
                    Check.same("equal values", (i + 1L) * value, x.sum(0, Scene.between(order, i)));
                }
                x.put(0, Scene.key(order, 30), -1 - value);
                Check.same("the other end of int among them", 59L * value - 1 - value, x.sum(0, Scene.key(order, 60)));
                Check.same("up to it", 30L * value, x.sum(0, Scene.key(order, 30)));
            }
        });
    }
}
