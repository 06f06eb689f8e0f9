/** The edges that 'Terms' names, a test to each sentence. */
public final class TermsEdgeTest {
    private static final int MIN = Scene.MIN;
    private static final int MAX = Scene.MAX;
    private static final int CALLS = 20;

    public static void main(String[] args) {
        Check.sentence("MAPS 0, 1, 2.", TermsEdgeTest::maps);
        Check.sentence("No such map, kind, order or the like: IllegalArgumentException.", TermsEdgeTest::noSuchNumber);
        Check.sentence("ENTRIES, at most 60", TermsEdgeTest::sixtyEntries);
        Check.sentence("a KEY (int) and a VALUE (int)", TermsEdgeTest::anyIntIsAKeyAndAValue);
        Check.sentence("0: a key goes before another one if it is less.", TermsEdgeTest::order0);
        Check.sentence("1: if it is greater.", TermsEdgeTest::order1);
        Check.sentence("2: if key / 4, rounded down, is less.", TermsEdgeTest::order2);
        Check.sentence("there is just one entry of keys that are alike", TermsEdgeTest::oneEntryOfKeysAlike);
        Check.sentence("A map's entries are in its order.", TermsEdgeTest::entriesAreInOrder);
        Check.sentence("CHANGES, 0 at first", TermsEdgeTest::changesAtFirst);
        Check.sentence("grows by one with each entry that comes to a map", TermsEdgeTest::changesWithWhatComes);
        Check.sentence("or goes from it", TermsEdgeTest::changesWithWhatGoes);
        Check.sentence("and by one with make(), however many go then", TermsEdgeTest::changesWithMake);
        Check.sentence("not with a new value", TermsEdgeTest::changesNotWithAValue);
        Check.sentence("from a key on (or from the beginning)", TermsEdgeTest::rangeFromAKeyOn);
        Check.sentence("up to but without a key (or to the end)", TermsEdgeTest::rangeUpToAKey);
        Check.sentence("At first, and after make(), it has neither.", TermsEdgeTest::noRange);
        Check.sentence("A map has an ITERATOR or none (at first, and after make()).", TermsEdgeTest::noIterator);
        Check.sentence("its value is that one (its key stays)", TermsEdgeTest::toPutAKeyAlike);
        Check.sentence("otherwise it is a new entry", TermsEdgeTest::toPutANewKey);
        Check.sentence("Of several exceptions that hold the first one listed is thrown", TermsEdgeTest::whichIsFirst);
        Check.sentence("what throws changes nothing", TermsEdgeTest::refusedInARow);
        Check.end();
    }

    /** Call c of the face, on map m, that no map of an even family refuses. */
    private static Object call(TreeFamily x, int c, int m) {
        switch (c) {
            case 0: x.make(m, 1, 1); return "";
            case 1: return x.put(m, 100, 1);
            case 2: return x.remove(m, 0);
            case 3: return x.get(m, 0);
            case 4: return x.near(m, 0, 0);
            case 5: return x.size(m);
            case 6: return x.rank(m, 0);
            case 7: return x.select(m, 0);
            case 8: return x.sum(m, 0);
            case 9: x.range(m, 1, 0, 0); return "";
            case 10: return x.within(m, 1);
            case 11: return x.putWithin(m, 0, 5);
            case 12: return x.poll(m, true);
            case 13: x.iterate(m, true); return "";
            case 14: return x.next(m);
            case 15: x.drop(m); return "";
            case 16: return x.join(m, 0, 0);
            case 17: return x.split(m, 0, m == 0 ? 1 : 0);
            case 18: return x.changes(m);
            default: return x.audit(m);
        }
    }

    /** All three maps have the keys 0 .. 5 of a row and iterators that gave one. */
    private static Scene.Deed even(int kind, int order) {
        return x -> {
            for (int m = 0; m < 3; m++) {
                x.make(m, kind, order);
                Scene.putRow(x, m, order, 0, 6);
                x.iterate(m, false);
                x.next(m);
            }
        };
    }

    private static void maps() {
        for (int c = 0; c < CALLS; c++) {
            int asked = c;
            for (int m = 0; m < 3; m++) {
                int map = m;
                TreeFamily x = Scene.after(even(c % 4, m));
                Check.no("call " + c + " of map " + m + " is refused",
                        Check.answer(() -> call(x, asked, map)).startsWith("throws."));
            }
            for (int m : Scene.NOT_0_TO_2) {
                Refusal.illegal("call " + c + " of map " + m, even(c % 4, c % 3), x -> call(x, asked, m));
            }
        }
    }

    private static void noSuchNumber() {
        Scene.everyWay((kind, order) -> {
            Scene.Deed busy = Scene.busy(kind, order);
            for (int none : Scene.NOT_0_TO_3) {
                Refusal.illegal("kind " + none, busy, x -> x.make(0, none, order));
                Refusal.illegal("which " + none, busy, x -> x.near(0, none, 0));
                Refusal.illegal("how " + none, busy, x -> x.range(0, none, 0, 0));
            }
            for (int none : Scene.NOT_0_TO_2) {
                Refusal.illegal("order " + none, busy, x -> x.make(0, kind, none));
                Refusal.illegal("what " + none, busy, x -> x.within(0, none));
                Refusal.illegal("op " + none, busy, x -> x.join(0, 1, none));
                Refusal.illegal("other " + none, busy, x -> x.join(0, none, 0));
                Refusal.illegal("into " + none, busy, x -> x.split(0, 0, none));
            }
        });
    }

    private static void sixtyEntries() {
        Scene.everyWay((kind, order) -> {
            TreeFamily x = new TreeFamily();
            for (int m = 0; m < 3; m++) {
                x.make(m, kind, order);
                for (int i = 0; i < 60; i++) {
                    Check.yes("entry " + i, x.put(m, Scene.key(order, i * 7 % 60), i));
                }
                Check.same("all of them", 60, x.size(m));
                Check.outOfBounds("no 61st", putter(x, m, Scene.key(order, 60)));
            }
        });
    }

    private static Check.Act putter(TreeFamily x, int m, int key) {
        return () -> x.put(m, key, 1);
    }

    private static void anyIntIsAKeyAndAValue() {
        int[] any = {MIN, -1, 0, MAX};
        Scene.everyWay((kind, order) -> {
            for (int key : any) {
                for (int value : any) {
                    TreeFamily x = new TreeFamily();
                    x.make(1, kind, order);
                    Check.yes("put " + key, x.put(1, key, value));
                    Check.same("get " + key, value, x.get(1, key));
                    Check.same("select " + key, key, x.select(1, 0));
                    Check.same("near " + key, key, x.near(1, 1, key));
                    Check.yes("remove " + key, x.remove(1, key));
                }
            }
        });
    }

    /** What rank says of two keys of which only the first is in the map: 1 if it goes before the second. */
    private static void before(int order, int one, int other, boolean due) {
        for (int kind = 0; kind < 4; kind++) {
            TreeFamily x = new TreeFamily();
            x.make(0, kind, order);
            x.put(0, one, 1);
            Check.same(one + " goes before " + other, due ? 1 : 0, x.rank(0, other));
        }
    }

    private static void order0() {
        before(0, -1, 0, true);
        before(0, 0, -1, false);
        before(0, 0, 0, false);
        before(0, MIN, MAX, true);
        before(0, MAX, MIN, false);
        before(0, MIN, MIN + 1, true);
        before(0, MAX - 1, MAX, true);
        before(0, MAX, MAX, false);
    }

    private static void order1() {
        before(1, 0, -1, true);
        before(1, -1, 0, false);
        before(1, 0, 0, false);
        before(1, MAX, MIN, true);
        before(1, MIN, MAX, false);
        before(1, MIN + 1, MIN, true);
        before(1, MAX, MAX - 1, true);
        before(1, MIN, MIN, false);
    }

    private static void order2() {
        int[] firstOfFour = {-8, -4, 0, 4, MIN, MAX - 3};
        for (int first : firstOfFour) {
            for (int i = 0; i < 4; i++) {
                for (int j = 0; j < 4; j++) {
                    before(2, first + i, first + j, false);
                }
            }
        }
        before(2, -1, 0, true);
        before(2, 0, -1, false);
        before(2, -5, -4, true);
        before(2, -4, -5, false);
        before(2, 3, 4, true);
        before(2, MIN + 3, MIN + 4, true);
        before(2, MAX - 4, MAX - 3, true);
        before(2, MIN, MAX, true);
        before(2, MAX, MIN, false);
    }

    private static void oneEntryOfKeysAlike() {
        for (int kind = 0; kind < 4; kind++) {
            for (int first : new int[] {MIN, -4, 0, 40, MAX - 3}) {
                TreeFamily x = new TreeFamily();
                x.make(0, kind, 2);
                for (int i = 0; i < 8; i++) {
                    x.put(0, first + (i + 2) % 4, i);
                }
                Check.same("four keys alike", "[" + (first + 2) + "]", Scene.keys(x, 0));
                Check.same("the latest value", 7, x.get(0, first));
            }
        }
    }

    private static void entriesAreInOrder() {
        int[] keys = {5, MAX, -1, 0, MIN, 9, -9};
        String[] due = {
            "[-2147483648, -9, -1, 0, 5, 9, 2147483647]",
            "[2147483647, 9, 5, 0, -1, -9, -2147483648]",
            "[-2147483648, -9, -1, 0, 5, 9, 2147483647]"
        };
        Scene.everyWay((kind, order) -> {
            TreeFamily x = new TreeFamily();
            x.make(2, kind, order);
            for (int key : keys) {
                x.put(2, key, 1);
            }
            Check.same("order " + order, due[order], Scene.keys(x, 2));
        });
    }

    private static void changesAtFirst() {
        TreeFamily x = new TreeFamily();
        for (int m = 0; m < 3; m++) {
            Check.same("map " + m, 0, x.changes(m));
        }
    }

    /** How much CHANGES of map m grows with a deed in a busy family. */
    private static void grows(String what, int due, int m, int kind, int order, Scene.Deed deed) {
        TreeFamily x = Scene.after(Scene.busy(kind, order));
        int before = x.changes(m);
        deed.on(x);
        Check.same(what, due, x.changes(m) - before);
    }

    private static void changesWithWhatComes() {
        Scene.everyWay((kind, order) -> {
            int newKey = Scene.between(order, 2);
            grows("put", 1, 0, kind, order, x -> x.put(0, newKey, 1));
            grows("putWithin", 1, 0, kind, order, x -> x.putWithin(0, newKey, 1));
            grows("three of a union", 3, 0, kind, order, x -> x.join(0, 1, 0));
            grows("the other one of a union", 0, 1, kind, order, x -> x.join(0, 1, 0));
            grows("two of a split, and make", 3, 1, kind, order, x -> x.split(0, Scene.key(order, 4), 1));
            grows("another map", 0, 1, kind, order, x -> x.put(0, newKey, 1));
        });
    }

    private static void changesWithWhatGoes() {
        Scene.everyWay((kind, order) -> {
            grows("remove", 1, 0, kind, order, x -> x.remove(0, Scene.key(order, 2)));
            grows("remove none", 0, 0, kind, order, x -> x.remove(0, Scene.between(order, 2)));
            grows("poll", 1, 0, kind, order, x -> x.poll(0, true));
            grows("drop", 1, 0, kind, order, x -> x.drop(0));
            grows("three of an intersection", 3, 0, kind, order, x -> x.join(0, 1, 1));
            grows("three of a difference", 3, 0, kind, order, x -> x.join(0, 1, 2));
            grows("two of a split", 2, 0, kind, order, x -> x.split(0, Scene.key(order, 4), 1));
            grows("none of a split", 0, 0, kind, order, x -> x.split(0, Scene.key(order, 6), 1));
            grows("came and went", 2, 0, kind, order, x -> {
                x.put(0, Scene.key(order, 7), 1);
                x.remove(0, Scene.key(order, 7));
            });
        });
    }

    private static void changesWithMake() {
        Scene.everyWay((kind, order) -> {
            for (int count : new int[] {0, 1, 60}) {
                TreeFamily x = Scene.row(kind, order, count);
                x.make(0, kind, order);
                Check.same("two makes and " + count + " entries", count + 2, x.changes(0));
                Check.same("another map", 0, x.changes(1));
            }
        });
    }

    private static void changesNotWithAValue() {
        Scene.everyWay((kind, order) -> {
            int key = Scene.alike(order, 2);
            grows("put", 0, 0, kind, order, x -> x.put(0, key, 9));
            grows("put of the same value", 0, 0, kind, order, x -> x.put(0, key, Scene.value(2)));
            grows("putWithin", 0, 0, kind, order, x -> x.putWithin(0, key, 9));
            grows("union with itself", 0, 0, kind, order, x -> x.join(0, 0, 0));
            grows("intersection with itself", 0, 0, kind, order, x -> x.join(0, 0, 1));
            grows("a range and an iterator", 0, 0, kind, order, x -> {
                x.range(0, 0, 0, 0);
                x.iterate(0, true);
                x.next(0);
            });
            TreeFamily x = Scene.row(kind, order, 60);
            Check.no("put in a full map", x.put(0, key, 9));
            Check.same("make and 60 entries", 61, x.changes(0));
        });
    }

    private static void inRange(String what, TreeFamily x, int key) {
        Check.same(what + " " + key, "true", Check.answer(() -> x.putWithin(0, key, 1)));
    }

    private static void notInRange(String what, TreeFamily x, int key) {
        Check.illegal(what + " " + key, () -> x.putWithin(0, key, 1));
    }

    private static TreeFamily withRange(int kind, int order, int how, int first, int second) {
        TreeFamily x = new TreeFamily();
        x.make(0, kind, order);
        x.range(0, how, first, second);
        return x;
    }

    private static void rangeFromAKeyOn() {
        Scene.everyWay((kind, order) -> {
            int firstOfAll = order == 1 ? MAX : MIN;
            for (int how = 1; how <= 3; how += 2) {
                TreeFamily x = withRange(kind, order, how, Scene.alike(order, 2), Scene.key(order, 9));
                notInRange("the one before", x, Scene.between(order, 1));
                notInRange("the first of all", x, firstOfAll);
                inRange("alike to the first", x, Scene.key(order, 2));
                inRange("behind it", x, Scene.between(order, 2));
            }
            inRange("from the beginning", withRange(kind, order, 2, 0, Scene.key(order, 9)), firstOfAll);
            inRange("from the first of all on", withRange(kind, order, 1, firstOfAll, 0), firstOfAll);
        });
        notInRange("just before", withRange(0, 0, 1, 7, 0), 6);
        notInRange("just before, order 1", withRange(0, 1, 1, 7, 0), 8);
        notInRange("just before, order 2", withRange(0, 2, 1, 7, 0), 3);
    }

    private static void rangeUpToAKey() {
        Scene.everyWay((kind, order) -> {
            int lastOfAll = order == 1 ? MIN : MAX;
            for (int how = 2; how <= 3; how++) {
                TreeFamily x = withRange(kind, order, how, Scene.key(order, 2), Scene.alike(order, 9));
                notInRange("alike to the second", x, Scene.key(order, 9));
                notInRange("the second itself", x, Scene.alike(order, 9));
                notInRange("the last of all", x, lastOfAll);
                inRange("before it", x, Scene.between(order, 8));
            }
            inRange("to the end", withRange(kind, order, 1, Scene.key(order, 2), 0), lastOfAll);
            notInRange("up to the last of all", withRange(kind, order, 2, 0, lastOfAll), lastOfAll);
        });
        inRange("just before", withRange(0, 0, 2, 0, 7), 6);
        inRange("just before, order 1", withRange(0, 1, 2, 0, 7), 8);
        inRange("just before, order 2", withRange(0, 2, 2, 0, 7), 3);
    }

    private static void noRange() {
        for (int m = 0; m < 3; m++) {
            TreeFamily x = new TreeFamily();
            Check.yes("at first, the least key", x.putWithin(m, MIN, 1));
            Check.yes("at first, the greatest key", x.putWithin(m, MAX, 1));
            Check.same("at first, how many", 2, x.within(m, 0));
        }
        Scene.everyWay((kind, order) -> {
            for (int how = 1; how <= 3; how++) {
                TreeFamily x = withRange(kind, order, how, 0, 0);
                x.make(0, kind, order);
                Check.yes("after make(), the least key", x.putWithin(0, MIN, 1));
                Check.yes("after make(), the greatest key", x.putWithin(0, MAX, 1));
                Check.same("after make(), how many", 2, x.within(0, 0));
            }
        });
    }

    private static void noIterator() {
        for (int m = 0; m < 3; m++) {
            int map = m;
            Refusal.badState("at first, next", x -> { }, x -> x.next(map));
            Refusal.badState("at first, drop", x -> { }, x -> x.drop(map));
        }
        Scene.everyWay((kind, order) -> {
            Scene.Deed made = x -> {
                Scene.busy(kind, order).on(x);
                x.make(0, kind, order);
            };
            Refusal.badState("after make(), next", made, x -> x.next(0));
            Refusal.badState("after make(), drop", made, x -> x.drop(0));
        });
    }

    private static void toPutAKeyAlike() {
        Scene.everyWay((kind, order) -> {
            TreeFamily x = Scene.row(kind, order, 5);
            for (int i = 0; i < 5; i++) {
                Check.no("put " + i, x.put(0, Scene.alike(order, i), MIN + i));
                Check.same("its value " + i, MIN + i, x.get(0, Scene.key(order, i)));
            }
            Check.same("the keys stay", Scene.rowKeys(order, 0, 1, 2, 3, 4), Scene.keys(x, 0));
        });
    }

    private static void toPutANewKey() {
        Scene.everyWay((kind, order) -> {
            TreeFamily x = Scene.row(kind, order, 2);
            Check.yes("between", x.put(0, Scene.between(order, 0), 5));
            Check.yes("ahead of all", x.put(0, Scene.between(order, -1), 6));
            Check.yes("behind all", x.put(0, Scene.between(order, 1), 7));
            Check.same("five entries", "[6, 1000, 5, 1001, 7]", Scene.values(x, 0));
        });
    }

    /** Each of these calls could throw two exceptions. */
    private static void whichIsFirst() {
        Scene.Deed none = x -> x.make(1, 0, 1);
        for (int m : Scene.NOT_0_TO_2) {
            Refusal.illegal("no map, and no entry: get", none, x -> x.get(m, 0));
            Refusal.illegal("no map, and no entry: near", none, x -> x.near(m, 0, 0));
            Refusal.illegal("no map, and no entry: select", none, x -> x.select(m, -1));
            Refusal.illegal("no map, and no entry: within", none, x -> x.within(m, 1));
            Refusal.illegal("no map, and no entry: poll", none, x -> x.poll(m, false));
            Refusal.illegal("no map, and no iterator: next", none, x -> x.next(m));
            Refusal.illegal("no map, and no iterator: drop", none, x -> x.drop(m));
            Refusal.illegal("no what, and no entry", none, x -> x.within(0, m));
        }
        for (int which : Scene.NOT_0_TO_3) {
            Refusal.illegal("no which, and no entry", none, x -> x.near(0, which, 0));
        }
        Scene.everyWay((kind, order) -> {
            Scene.Deed full = Scene.full(kind, order);
            Refusal.illegal("not in range, and the 61st", full, x -> x.putWithin(0, Scene.key(order, 60), 1));
            Scene.Deed tooMany = x -> {
                full.on(x);
                x.put(1, Scene.key(order, 60), 1);
            };
            Refusal.illegal("no op, and too many", tooMany, x -> x.join(0, 1, 3));
            Scene.Deed foreign = x -> {
                full.on(x);
                x.make(1, kind, (order + 1) % 3);
                x.put(1, MIN, 1);
                x.put(1, MAX, 1);
            };
            Refusal.illegal("other orders, and too many", foreign, x -> x.join(0, 1, 0));
            Scene.Deed spent = x -> {
                x.make(0, kind, order);
                x.iterate(0, false);
                x.put(0, 1, 1);
            };
            Refusal.badState("other changes, and none more", spent, x -> x.next(0));
        });
    }

    /** Refused calls of all sorts one after the other: what each one leaves is what was there. */
    private static void refusedInARow() {
        Scene.everyWay((kind, order) -> {
            Scene.Deed full = Scene.full(kind, order);
            Refusal.illegal("the last of many", full, x -> {
                int newKey = Scene.between(order, 3);
                Check.outOfBounds("put", () -> x.put(0, newKey, 1));
                Check.outOfBounds("putWithin", () -> x.putWithin(0, newKey, 1));
                Check.outOfBounds("get", () -> x.get(0, newKey));
                Check.outOfBounds("near", () -> x.near(0, 2, Scene.key(order, 0)));
                Check.outOfBounds("select", () -> x.select(0, 60));
                Check.illegal("range", () -> x.range(0, 3, Scene.key(order, 2), Scene.key(order, 1)));
                Check.illegal("make", () -> x.make(0, kind, 3));
                Check.badState("drop", () -> x.drop(2));
                Check.illegal("join", () -> x.join(0, 2, 0));
                x.split(0, Scene.key(order, 0), 0);
            });
        });
    }
}
