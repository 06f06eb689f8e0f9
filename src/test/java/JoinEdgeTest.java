/** The edges that promises 18 to 21 name, a test to each sentence. */
public final class JoinEdgeTest {
    private static final int MIN = Scene.MIN;
    private static final int MAX = Scene.MAX;

    public static void main(String[] args) {
        Check.sentence("18: op 0 the union: entries of both", JoinEdgeTest::union);
        Check.sentence("18: 1 the intersection: its entries of which the other one has a key alike",
                JoinEdgeTest::intersection);
        Check.sentence("18: 2 the difference: those of which it has none", JoinEdgeTest::difference);
        Check.sentence("18: with the other one (which may be m itself) as it is", JoinEdgeTest::joinWithItself);
        Check.sentence("18: join() with an empty map, and of one", JoinEdgeTest::joinOfEmptyMaps);
        Check.sentence("18: Where both have one, the key is m's", JoinEdgeTest::joinKeepsKeys);
        Check.sentence("18: the value 2 * (m's) + (the other's)", JoinEdgeTest::joinWrapsAround);
        Check.sentence("18: How many entries came or went.", JoinEdgeTest::joinCounts);
        Check.sentence("18: join(), and what else a map has", JoinEdgeTest::joinLeavesTheRest);
        Check.sentence("18: IllegalArgumentException also: the orders are different", JoinEdgeTest::joinOfOtherOrders);
        Check.sentence("18: join(), the kinds are different", JoinEdgeTest::joinOfOtherKinds);
        Check.sentence("18: join(), no such map or op", JoinEdgeTest::joinOfNoSuch);
        Check.sentence("18: IndexOutOfBoundsException: there would be more than 60.", JoinEdgeTest::joinTooMany);
        Check.sentence("18: join(), there would be 60", JoinEdgeTest::joinOf60);
        Check.sentence("19: All entries of m whose keys do not go before a key come to another map",
                JoinEdgeTest::split);
        Check.sentence("19: in place of its entries", JoinEdgeTest::splitInPlace);
        Check.sentence("19: that has m's kind and order, no range and no iterator then", JoinEdgeTest::splitMakes);
        Check.sentence("19: split(), and what else m has", JoinEdgeTest::splitLeavesTheRest);
        Check.sentence("19: IllegalArgumentException also: into is m.", JoinEdgeTest::splitIntoItself);
        Check.sentence("19: split(), no such map", JoinEdgeTest::splitOfNoSuch);
        Check.sentence("19: CHANGES of into grows as with make(), then with each of them.", JoinEdgeTest::splitChanges);
        Check.sentence("20: CHANGES.", JoinEdgeTest::changesOfOneMap);
        Check.sentence("21: Whether the tree is as its kind wants it (it is).", JoinEdgeTest::audit);
        Check.end();
    }

    /** Map 0 has the places 0 .. 5 of a row, map 1 the places 3 .. 8 with keys alike and the values 1 .. 6. */
    private static TreeFamily lapping(int kind, int order) {
        TreeFamily x = Scene.row(kind, order, 6);
        x.make(1, 3 - kind, order);
        for (int i = 3; i < 9; i++) {
            x.put(1, Scene.alike(order, i), i - 2);
        }
        return x;
    }

    private static void union() {
        Scene.everyWay((kind, order) -> {
            TreeFamily x = lapping(kind, order);
            Check.same("came", 3, x.join(0, 1, 0));
            Check.same("values", "[1000, 1001, 1002, 2007, 2010, 2013, 4, 5, 6]", Scene.values(x, 0));
            Check.same("the last key is the other's", Scene.alike(order, 8), x.select(0, 8));
            Check.same("again", 0, x.join(0, 1, 0));
            Check.same("then all meet", "[1000, 1001, 1002, 4015, 4022, 4029, 12, 15, 18]", Scene.values(x, 0));
            Check.same("sum", 3003 + 4015 + 4022 + 4029 + 45, x.sum(0, Scene.key(order, 9)));
            Check.yes("audit", x.audit(0));
        });
    }

    private static void intersection() {
        Scene.everyWay((kind, order) -> {
            TreeFamily x = lapping(kind, order);
            Check.same("went", 3, x.join(0, 1, 1));
            Check.same("keys", Scene.rowKeys(order, 3, 4, 5), Scene.keys(x, 0));
            Check.same("values", "[2007, 2010, 2013]", Scene.values(x, 0));
            Check.same("again", 0, x.join(0, 1, 1));
            Check.same("sum", 4015 + 4022 + 4029, x.sum(0, Scene.key(order, 9)));
            x.make(1, kind, order);
            Scene.putRow(x, 1, order, 6, 9);
            Check.same("of which it has none", 3, x.join(0, 1, 1));
            Check.same("none left", 0, x.size(0));
        });
    }

    private static void difference() {
        Scene.everyWay((kind, order) -> {
            TreeFamily x = lapping(kind, order);
            Check.same("went", 3, x.join(0, 1, 2));
            Check.same("keys", Scene.rowKeys(order, 0, 1, 2), Scene.keys(x, 0));
            Check.same("values", Scene.rowValues(0, 1, 2), Scene.values(x, 0));
            Check.same("again", 0, x.join(0, 1, 2));
            Check.same("the values stay", Scene.rowValues(0, 1, 2), Scene.values(x, 0));
            x.make(1, kind, order);
            Scene.putRow(x, 1, order, 0, 6);
            Check.same("of which it has all", 3, x.join(0, 1, 2));
            Check.same("none left", 0, x.size(0));
        });
    }

    private static void joinWithItself() {
        Scene.everyWay((kind, order) -> {
            for (int count : new int[] {0, 1, 60}) {
                TreeFamily x = Scene.row(kind, order, count);
                Check.same("union", 0, x.join(0, 0, 0));
                Check.same("intersection", 0, x.join(0, 0, 1));
                long due = 0;
                for (int i = 0; i < count; i++) {
                    Check.same("three times three", 9 * Scene.value(i), x.get(0, Scene.key(order, i)));
                    due += 9 * Scene.value(i);
                }
                Check.same("sum", due, x.sum(0, Scene.key(order, count)));
                Check.same("no change", count + 1, x.changes(0));
                Check.yes("audit", x.audit(0));
                Check.same("difference", count, x.join(0, 0, 2));
                Check.same("none left", 0, x.size(0));
                Check.same("all went", 2 * count + 1, x.changes(0));
            }
        });
    }

    private static void joinOfEmptyMaps() {
        Scene.everyWay((kind, order) -> {
            int[][] due = {{6, 0, 0}, {0, 6, 0}, {0, 0, 0}};
            for (int op = 0; op < 3; op++) {
                TreeFamily x = Scene.row(kind, order, 6);
                x.make(1, kind, order);
                x.make(2, kind, order);
                Check.same("both empty, op " + op, 0, x.join(1, 2, op));
                Check.same("the other one empty, op " + op, due[1][op], x.join(0, 1, op));
                Check.same("what is left, op " + op, op == 1 ? 0 : 6, x.size(0));
                Scene.putRow(x, 0, order, 0, 6);
                Check.same("m empty, op " + op, due[0][op], x.join(1, 0, op));
                Check.same("what has come, op " + op, due[0][op], x.size(1));
                Check.same("the other one stays, op " + op, 6, x.size(0));
            }
        });
    }

    private static void joinKeepsKeys() {
        for (int kind = 0; kind < 4; kind++) {
            for (int op = 0; op < 2; op++) {
                TreeFamily x = new TreeFamily();
                x.make(0, kind, 2);
                x.make(1, kind, 2);
                int[] mine = {MIN, -1, 0, MAX};
                int[] theirs = {MIN + 3, -4, 3, MAX - 3};
                for (int i = 0; i < 4; i++) {
                    x.put(0, mine[i], 10 * i);
                    x.put(1, theirs[i], i);
                }
                Check.same("op " + op, 0, x.join(0, 1, op));
                Check.same("the keys are m's", "[-2147483648, -1, 0, 2147483647]", Scene.keys(x, 0));
                Check.same("the values", "[0, 21, 42, 63]", Scene.values(x, 0));
                Check.same("the other's keys", "[-2147483645, -4, 3, 2147483644]", Scene.keys(x, 1));
            }
        }
    }

    private static void joinWrapsAround() {
        int[][] rows = {
            {MAX, MAX, MAX - 2}, {MIN, MIN, MIN}, {MAX, MIN, MAX - 1}, {MIN, MAX, MAX}, {MAX, 0, -2}, {MIN, -1, -1},
            {1 << 30, 0, MIN}, {0, MIN, MIN}, {(1 << 30) - 1, 1, MAX}, {(1 << 30) - 1, 2, MIN}, {-1, 1, -1}
        };
        Scene.everyWay((kind, order) -> {
            for (int op = 0; op < 2; op++) {
                for (int[] row : rows) {
                    TreeFamily x = new TreeFamily();
                    x.make(0, kind, order);
                    x.make(1, kind, order);
                    x.put(0, 5, row[0]);
                    x.put(1, 5, row[1]);
                    x.join(0, 1, op);
                    Check.same("2 * " + row[0] + " + " + row[1], row[2], x.get(0, 5));
                    Check.same("its sum", row[2], x.sum(0, order == 1 ? MIN : MAX));
                }
            }
        });
    }

    private static void joinCounts() {
        Scene.everyWay((kind, order) -> {
            int[] due = {20, 20, 20};
            for (int op = 0; op < 3; op++) {
                TreeFamily x = Scene.row(kind, order, 40);
                x.make(1, kind, order);
                Scene.putRow(x, 1, order, 20, 60);
                Check.same("half of them, op " + op, due[op], x.join(0, 1, op));
                Check.same("changes, op " + op, 41 + due[op], x.changes(0));
                Check.same("the other one's changes, op " + op, 41, x.changes(1));
            }
            TreeFamily x = Scene.row(kind, order, 60);
            x.make(1, kind, order);
            Check.same("60 came", 60, x.join(1, 0, 0));
            Check.same("60 went", 60, x.join(1, 0, 2));
            Check.same("changes", 121, x.changes(1));
        });
    }

    private static void joinLeavesTheRest() {
        Scene.everyWay((kind, order) -> {
            for (int op = 0; op < 3; op++) {
                TreeFamily x = Scene.after(Scene.busy(kind, order));
                x.join(0, 1, op);
                Check.badState("m's iterator fails", () -> x.next(0));
                Check.illegal("m's range stays", () -> x.putWithin(0, Scene.key(order, 5), 1));
                Check.same("up to its end", op == 2 ? 1 : 0, x.putWithin(0, Scene.key(order, 4), 1) ? 1 : 0);
                Check.same("the other's iterator goes on", Scene.key(order, 6), x.next(1));
                Check.same("the other's range stays", 5, x.within(1, 0));
                Check.same("the other's entries", Scene.rowKeys(order, Scene.places(3, 9)), Scene.keys(x, 1));
                Check.same("the other's values", Scene.rowValues(Scene.places(3, 9)), Scene.values(x, 1));
                Check.same("the third map", 4, x.size(2));
            }
        });
    }

    private static void joinOfOtherOrders() {
        for (int kind = 0; kind < 4; kind++) {
            for (int order = 0; order < 3; order++) {
                for (int another = 0; another < 3; another++) {
                    for (int op = 0; op < 3; op++) {
                        ofOrders(kind, order, another, op);
                    }
                }
            }
        }
    }

    private static void ofOrders(int kind, int order, int another, int op) {
        String what = "orders " + order + " and " + another + ", op " + op;
        Scene.Deed both = x -> {
            Scene.busy(kind, order).on(x);
            x.make(2, kind, another);
            x.put(2, 0, 1);
        };
        if (order != another) {
            Refusal.illegal(what, both, x -> x.join(0, 2, op));
            Refusal.illegal(what + ", turned round", both, x -> x.join(2, 0, op));
            Refusal.illegal(what + ", both empty", x -> {
                x.make(0, kind, order);
                x.make(1, kind, another);
            }, x -> x.join(0, 1, op));
        } else {
            TreeFamily x = Scene.after(both);
            Check.same(what, op == 0 ? 0 : op == 1 ? 5 : 1, x.join(0, 2, op));
        }
    }

    private static void joinOfOtherKinds() {
        for (int kind = 0; kind < 4; kind++) {
            for (int another = 0; another < 4; another++) {
                TreeFamily x = Scene.row(kind, 0, 20);
                x.make(1, another, 0);
                Scene.putRow(x, 1, 0, 10, 30);
                Check.same("kinds " + kind + " and " + another, 10, x.join(0, 1, 0));
                Check.yes("audit", x.audit(0) && x.audit(1));
            }
        }
    }

    private static void joinOfNoSuch() {
        Scene.everyWay((kind, order) -> {
            Scene.Deed busy = Scene.busy(kind, order);
            for (int none : Scene.NOT_0_TO_2) {
                for (int op = 0; op < 3; op++) {
                    int asked = op;
                    Refusal.illegal("no m", busy, x -> x.join(none, 0, asked));
                    Refusal.illegal("no other", busy, x -> x.join(0, none, asked));
                    Refusal.illegal("neither", busy, x -> x.join(none, none, asked));
                }
                Refusal.illegal("no op", busy, x -> x.join(0, 1, none));
                Refusal.illegal("no op, with itself", busy, x -> x.join(0, 0, none));
            }
        });
    }

    private static void joinTooMany() {
        Scene.everyWay((kind, order) -> {
            for (int mine : new int[] {60, 59, 31, 2}) {
                Scene.Deed by1 = x -> {
                    Scene.busy(kind, order).on(x);
                    x.make(0, kind, order);
                    x.make(1, 3 - kind, order);
                    Scene.putRow(x, 0, order, 0, mine);
                    Scene.putRow(x, 1, order, mine - 1, 61);
                    x.range(0, 3, Scene.key(order, 0), Scene.key(order, 3));
                    x.iterate(0, false);
                    x.next(0);
                };
                Refusal.outOfBounds("61 of " + mine, by1, x -> x.join(0, 1, 0));
                TreeFamily x = Scene.after(by1);
                Check.same("an intersection is no more", mine - 1, x.join(0, 1, 1));
                TreeFamily y = Scene.after(by1);
                Check.same("nor is a difference", 1, y.join(0, 1, 2));
            }
            Scene.Deed bothFull = x -> {
                x.make(0, kind, order);
                x.make(1, kind, order);
                Scene.putRow(x, 0, order, 0, 60);
                Scene.putRow(x, 1, order, -60, 0);
            };
            Refusal.outOfBounds("120", bothFull, x -> x.join(0, 1, 0));
        });
    }

    private static void joinOf60() {
        Scene.everyWay((kind, order) -> {
            for (int mine : new int[] {60, 59, 30, 1, 0}) {
                TreeFamily x = Scene.row(kind, order, mine);
                x.make(1, 3 - kind, order);
                Scene.putRow(x, 1, order, mine == 60 ? 1 : mine, 60);
                Check.same("60 of " + mine, 60 - mine, x.join(0, 1, 0));
                Check.same("all of them", 60, x.size(0));
                Check.same("changes", 61, x.changes(0));
                Check.yes("audit", x.audit(0));
                Check.outOfBounds("full", () -> x.put(0, MIN, 1));
            }
        });
    }

    /** Of count entries those from a place on go. */
    private static void splitAt(String what, int kind, int order, int count, int key, int stay) {
        TreeFamily x = Scene.row(kind, order, count);
        Check.same(what + ", how many", count - stay, x.split(0, key, 2));
        Check.same(what + ", stay", Scene.rowKeys(order, Scene.places(0, stay)), Scene.keys(x, 0));
        Check.same(what + ", come", Scene.rowKeys(order, Scene.places(stay, count)), Scene.keys(x, 2));
        Check.same(what + ", values", Scene.rowValues(Scene.places(stay, count)), Scene.values(x, 2));
        Check.yes(what + ", audit", x.audit(0) && x.audit(2));
    }

    private static void split() {
        Scene.everyWay((kind, order) -> {
            int first = order == 1 ? MAX : MIN;
            int last = order == 1 ? MIN : MAX;
            for (int count : new int[] {0, 1, 60}) {
                splitAt("the first of all", kind, order, count, first, 0);
                splitAt("the last of all", kind, order, count, last, count);
                splitAt("at the first", kind, order, count, Scene.alike(order, 0), 0);
                splitAt("behind the last", kind, order, count, Scene.key(order, count), count);
            }
            splitAt("at an entry", kind, order, 60, Scene.key(order, 20), 20);
            splitAt("alike to an entry", kind, order, 60, Scene.alike(order, 20), 20);
            splitAt("between", kind, order, 60, Scene.between(order, 20), 21);
            splitAt("at the last", kind, order, 60, Scene.alike(order, 59), 59);
            TreeFamily x = new TreeFamily();
            x.make(0, kind, order);
            x.put(0, last, 1);
            Check.same("the last of all, which is there", 1, x.split(0, last, 1));
        });
    }

    private static void splitInPlace() {
        Scene.everyWay((kind, order) -> {
            for (int place : new int[] {0, 5, 10}) {
                TreeFamily x = Scene.row(kind, order, 10);
                Scene.fillUp(x, 1, 1000, 60);
                Check.same("how many", 10 - place, x.split(0, Scene.key(order, place), 1));
                Check.same("those alone", Scene.rowKeys(order, Scene.places(place, 10)), Scene.keys(x, 1));
                Check.same("the third map", 0, x.size(2));
                Scene.putRow(x, 1, order, 10, 60 + place);
                Check.same("room for 60", 60, x.size(1));
            }
        });
    }

    private static void splitMakes() {
        Scene.everyWay((kind, order) -> {
            for (int place : new int[] {0, 4, 6}) {
                TreeFamily x = Scene.after(Scene.busy(kind, order));
                x.split(0, Scene.key(order, place), 2);
                Check.same("no range", 6 - place, x.within(2, 0));
                Check.badState("no iterator", () -> x.next(2));
                Check.badState("nothing to drop", () -> x.drop(2));
                Check.same("m's order", place, x.join(2, 0, 0));
                Check.no("alike by m's order", x.put(2, Scene.alike(order, 0), 1));
                Check.yes("no range, least key", x.putWithin(2, MIN, 1));
                Check.yes("no range, greatest key", x.putWithin(2, MAX, 1));
            }
        });
    }

    private static void splitLeavesTheRest() {
        Scene.everyWay((kind, order) -> {
            TreeFamily x = Scene.after(Scene.busy(kind, order));
            x.split(0, Scene.key(order, 6), 2);
            Check.same("none went: m's iterator goes on", Scene.key(order, 2), x.next(0));
            x.split(0, Scene.key(order, 3), 2);
            Check.badState("some went: m's iterator fails", () -> x.next(0));
            Check.same("m's range", 2, x.within(0, 0));
            Check.illegal("m's range ends", () -> x.putWithin(0, Scene.key(order, 5), 1));
            Check.illegal("m's range begins", () -> x.putWithin(0, Scene.key(order, 0), 1));
            x.put(0, Scene.alike(order, 3), 9);
            Check.same("m's values stay", "[1000, 1001, 1002, 9]", Scene.values(x, 0));
            Check.same("the third map's iterator", Scene.key(order, 6), x.next(1));
            x.remove(2, Scene.key(order, 3));
            Check.same("each has its own entries", 9, x.get(0, Scene.key(order, 3)));
        });
    }

    private static void splitIntoItself() {
        Scene.everyWay((kind, order) -> {
            for (int m = 0; m < 3; m++) {
                int map = m;
                Refusal.illegal("some to go", Scene.busy(kind, order), x -> x.split(map, 0, map));
                Refusal.illegal("none to go", x -> x.make(map, kind, order), x -> x.split(map, 0, map));
            }
        });
    }

    private static void splitOfNoSuch() {
        Scene.everyWay((kind, order) -> {
            Scene.Deed busy = Scene.busy(kind, order);
            for (int none : Scene.NOT_0_TO_2) {
                Refusal.illegal("no m", busy, x -> x.split(none, Scene.key(order, 2), 0));
                Refusal.illegal("no into", busy, x -> x.split(0, Scene.key(order, 2), none));
                Refusal.illegal("neither", busy, x -> x.split(none, Scene.key(order, 2), none));
            }
        });
    }

    private static void splitChanges() {
        Scene.everyWay((kind, order) -> {
            for (int there : new int[] {0, 1, 60}) {
                for (int place : new int[] {0, 7, 60}) {
                    TreeFamily x = Scene.row(kind, order, 60);
                    Scene.fillUp(x, 1, 0, there);
                    x.split(0, Scene.key(order, place), 1);
                    Check.same("into's", there + 1 + 60 - place, x.changes(1));
                    Check.same("m's", 61 + 60 - place, x.changes(0));
                    Check.same("the third map's", 0, x.changes(2));
                }
            }
        });
    }

    private static void changesOfOneMap() {
        Scene.everyWay((kind, order) -> {
            for (int m = 0; m < 3; m++) {
                TreeFamily x = new TreeFamily();
                x.make(m, kind, order);
                x.put(m, 1, 1);
                x.iterate(m, false);
                x.next(m);
                x.drop(m);
                Check.same("make, put, drop", 3, x.changes(m));
                Check.same("another map", 0, x.changes((m + 1) % 3));
                Check.same("a question is no change", 3, x.changes(m));
            }
        });
    }

    private static void audit() {
        Scene.everyWay((kind, order) -> {
            TreeFamily x = new TreeFamily();
            x.make(0, kind, order);
            Check.yes("empty", x.audit(0));
            for (int i = 0; i < 60; i++) {
                x.put(0, Scene.key(order, i * 23 % 60), i);
                Check.yes("put", x.audit(0));
            }
            Check.outOfBounds("refused", () -> x.put(0, MIN, 1));
            Check.yes("full", x.audit(0));
            x.put(0, Scene.key(order, 30), MIN);
            Check.yes("a new value", x.audit(0));
            x.join(0, 0, 1);
            Check.yes("new values", x.audit(0));
            x.split(0, Scene.key(order, 20), 1);
            Check.yes("split", x.audit(0) && x.audit(1));
            x.join(1, 0, 0);
            Check.yes("united", x.audit(1));
            x.join(1, 0, 2);
            Check.yes("subtracted", x.audit(1));
            x.iterate(1, true);
            for (int i = 0; i < 40; i++) {
                x.next(1);
                x.drop(1);
                Check.yes("dropped", x.audit(1));
            }
            Check.yes("empty again", x.audit(1));
        });
    }
}
