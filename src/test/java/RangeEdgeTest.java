/** The edges that promises 11 to 17 name, a test to each sentence. */
public final class RangeEdgeTest {
    private static final int MIN = Scene.MIN;
    private static final int MAX = Scene.MAX;

    public static void main(String[] args) {
        Check.sentence("11: from first on, if how has bit 0, up to second, if it has bit 1",
                RangeEdgeTest::rangeByBits);
        Check.sentence("11: range(), in place of another one", RangeEdgeTest::rangeInPlaceOfAnother);
        Check.sentence("11: how is not 0 .. 3", RangeEdgeTest::rangeOfNoHow);
        Check.sentence("11: or it is 3 and second goes before first", RangeEdgeTest::rangeTurnedRound);
        Check.sentence("11: it is 3, and first and second are alike", RangeEdgeTest::rangeOfNone);
        Check.sentence("12: what 0 how many", RangeEdgeTest::withinHowMany);
        Check.sentence("12: 1 the key of the first one, 2 of the last one", RangeEdgeTest::withinEnds);
        Check.sentence("12: IndexOutOfBoundsException: there is none (1, 2).", RangeEdgeTest::withinNone);
        Check.sentence("12: within(), no such what", RangeEdgeTest::withinNoSuchWhat);
        Check.sentence("13: As put()", RangeEdgeTest::putWithinAsPut);
        Check.sentence("13: IllegalArgumentException: key is not in range", RangeEdgeTest::putWithinNotInRange);
        Check.sentence("13: putWithin(), the 61st", RangeEdgeTest::putWithinThe61st);
        Check.sentence("14: The entry at an end of the range is removed", RangeEdgeTest::poll);
        Check.sentence("14: poll() of all", RangeEdgeTest::pollAll);
        Check.sentence("14: IndexOutOfBoundsException: there is none.", RangeEdgeTest::pollNone);
        Check.sentence("15: a new iterator, in place of another one", RangeEdgeTest::iterateInPlace);
        Check.sentence("15: the entries that are in range now", RangeEdgeTest::iterateInRange);
        Check.sentence("15: back: behind them, and goes back through them", RangeEdgeTest::iterateBack);
        Check.sentence("15: It knows CHANGES as it is now.", RangeEdgeTest::iterateKnowsChanges);
        Check.sentence("16: of those as they were in range when the iterator came", RangeEdgeTest::nextOfThose);
        Check.sentence("16: IllegalStateException: there is no iterator", RangeEdgeTest::nextWithoutIterator);
        Check.sentence("16: or CHANGES is not what it knows", RangeEdgeTest::nextAfterChanges);
        Check.sentence("16: next(), CHANGES is what it knows", RangeEdgeTest::nextWithoutChanges);
        Check.sentence("16: IndexOutOfBoundsException: there is none more.", RangeEdgeTest::nextNoneMore);
        Check.sentence("17: The entry of the key that next() gave latest is removed", RangeEdgeTest::drop);
        Check.sentence("17: the iterator knows CHANGES as it is then", RangeEdgeTest::dropKnowsChanges);
        Check.sentence("17: IllegalStateException: there is no iterator", RangeEdgeTest::dropWithoutIterator);
        Check.sentence("17: or CHANGES is not what it knows", RangeEdgeTest::dropAfterChanges);
        Check.sentence("17: none was given yet", RangeEdgeTest::dropNoneGiven);
        Check.sentence("17: or it was dropped", RangeEdgeTest::dropTwice);
        Check.sentence("17: drop(), when there is none more", RangeEdgeTest::dropAtTheEnd);
        Check.end();
    }

    /** Six entries, of which the middle ones are in range, and which of them are. */
    private static void holds(String what, int kind, int order, int how, int from, int to) {
        TreeFamily x = Scene.row(kind, order, 6);
        x.range(0, how, Scene.key(order, 2), Scene.key(order, 4));
        Check.same(what + ", how many", to - from, x.within(0, 0));
        Check.same(what + ", first", Scene.key(order, from), x.within(0, 1));
        Check.same(what + ", last", Scene.key(order, to - 1), x.within(0, 2));
    }

    private static void rangeByBits() {
        Scene.everyWay((kind, order) -> {
            holds("no bit", kind, order, 0, 0, 6);
            holds("bit 0", kind, order, 1, 2, 6);
            holds("bit 1", kind, order, 2, 0, 4);
            holds("both", kind, order, 3, 2, 4);
            TreeFamily x = Scene.row(kind, order, 6);
            for (int how = 0; how < 3; how++) {
                x.range(0, how, Scene.key(order, 4), Scene.key(order, 2));
                Check.same("turned round, how " + how, how == 0 ? 6 : 2, x.within(0, 0));
            }
            x.range(0, 1, order == 1 ? MAX : MIN, 0);
            Check.same("from the first of all on", 6, x.within(0, 0));
            x.range(0, 2, 0, order == 1 ? MIN : MAX);
            Check.same("up to the last of all", 6, x.within(0, 0));
            x.range(0, 1, order == 1 ? MIN : MAX, 0);
            Check.same("from the last of all on", 0, x.within(0, 0));
            x.range(0, 2, 0, order == 1 ? MAX : MIN);
            Check.same("up to the first of all", 0, x.within(0, 0));
        });
    }

    private static void rangeInPlaceOfAnother() {
        Scene.everyWay((kind, order) -> {
            for (int before = 0; before < 4; before++) {
                TreeFamily x = Scene.row(kind, order, 6);
                int[] due = {6, 5, 1, 0};
                for (int how = 0; how < 4; how++) {
                    x.range(0, before, Scene.key(order, 2), Scene.key(order, 4));
                    x.range(0, how, Scene.key(order, 1), Scene.key(order, 1));
                    Check.same("how " + before + ", then " + how, due[how], x.within(0, 0));
                }
                Check.same("another map's range", 0, x.within(1, 0));
                x.put(1, 0, 0);
                Check.same("is its own", 1, x.within(1, 0));
            }
        });
    }

    private static void rangeOfNoHow() {
        Scene.everyWay((kind, order) -> {
            for (int how : new int[] {-1, 4, 5, 6, 7, MIN, MIN + 3, MAX}) {
                Refusal.illegal("how " + how, Scene.busy(kind, order), x -> x.range(0, how, 0, 0));
            }
        });
    }

    private static void rangeTurnedRound() {
        Scene.everyWay((kind, order) -> {
            Scene.Deed busy = Scene.busy(kind, order);
            int first = order == 1 ? MAX : MIN;
            int last = order == 1 ? MIN : MAX;
            Refusal.illegal("by one", busy, x -> x.range(0, 3, Scene.key(order, 2), Scene.key(order, 1)));
            Refusal.illegal("by half", busy, x -> x.range(0, 3, Scene.key(order, 2), Scene.between(order, 1)));
            Refusal.illegal("by all", busy, x -> x.range(0, 3, last, first));
            TreeFamily x = Scene.after(busy);
            x.range(0, 3, first, last);
            Check.same("the right way round", 6, x.within(0, 0));
        });
        Refusal.illegal("order 0, just", Scene.busy(0, 0), x -> x.range(0, 3, 8, 7));
        Refusal.illegal("order 1, just", Scene.busy(0, 1), x -> x.range(0, 3, 7, 8));
        Refusal.illegal("order 2, just", Scene.busy(0, 2), x -> x.range(0, 3, 8, 7));
        Refusal.illegal("order 2, just below 0", Scene.busy(0, 2), x -> x.range(0, 3, 0, -1));
    }

    private static void rangeOfNone() {
        Scene.everyWay((kind, order) -> {
            TreeFamily x = Scene.row(kind, order, 6);
            x.range(0, 3, Scene.alike(order, 2), Scene.key(order, 2));
            Check.same("at an entry", 0, x.within(0, 0));
            Check.illegal("its key is not in range", () -> x.putWithin(0, Scene.key(order, 2), 1));
            for (int key : new int[] {MIN, MAX, Scene.between(order, 2)}) {
                x.range(0, 3, key, key);
                Check.same("at no entry", 0, x.within(0, 0));
            }
        });
    }

    private static void withinHowMany() {
        Scene.everyWay((kind, order) -> {
            TreeFamily x = Scene.row(kind, order, 60);
            Check.same("no range", 60, x.within(0, 0));
            Check.same("an empty map", 0, x.within(1, 0));
            x.range(1, 1, 5, 0);
            Check.same("an empty map with a range", 0, x.within(1, 0));
            for (int to = 0; to <= 60; to += 12) {
                x.range(0, 3, Scene.key(order, 0), Scene.key(order, to));
                Check.same("from the first on", to, x.within(0, 0));
                x.range(0, 1, Scene.key(order, to), 0);
                Check.same("to the end", 60 - to, x.within(0, 0));
            }
            x.range(0, 3, Scene.between(order, 9), Scene.between(order, 10));
            Check.same("just one", 1, x.within(0, 0));
            x.remove(0, Scene.key(order, 10));
            Check.same("it went", 0, x.within(0, 0));
            x.put(0, Scene.key(order, 10), 1);
            Check.same("and came", 1, x.within(0, 0));
        });
    }

    private static void withinEnds() {
        Scene.everyWay((kind, order) -> {
            TreeFamily x = Scene.row(kind, order, 60);
            Check.same("first of all", Scene.key(order, 0), x.within(0, 1));
            Check.same("last of all", Scene.key(order, 59), x.within(0, 2));
            x.range(0, 3, Scene.between(order, 9), Scene.between(order, 10));
            Check.same("just one, first", Scene.key(order, 10), x.within(0, 1));
            Check.same("just one, last", Scene.key(order, 10), x.within(0, 2));
            x.range(0, 3, Scene.alike(order, 9), Scene.alike(order, 11));
            Check.same("the first is in range", Scene.key(order, 9), x.within(0, 1));
            Check.same("the second is not", Scene.key(order, 10), x.within(0, 2));
        });
    }

    /** Six entries, none of which is in range. */
    private static Scene.Deed noneInRange(int kind, int order, int place) {
        return x -> {
            Scene.busy(kind, order).on(x);
            switch (place) {
                case 0 -> x.range(0, 2, 0, Scene.key(order, 0));
                case 1 -> x.range(0, 3, Scene.between(order, 2), Scene.key(order, 3));
                case 2 -> x.range(0, 3, Scene.key(order, 3), Scene.key(order, 3));
                case 3 -> x.range(0, 1, Scene.between(order, 5), 0);
                default -> x.make(0, kind, order);
            }
            x.iterate(0, place % 2 == 0);
        };
    }

    private static void withinNone() {
        Scene.everyWay((kind, order) -> {
            for (int place = 0; place < 5; place++) {
                Scene.Deed none = noneInRange(kind, order, place);
                Check.same("how many is no refusal", 0, Scene.after(none).within(0, 0));
                Refusal.outOfBounds("no first, place " + place, none, x -> x.within(0, 1));
                Refusal.outOfBounds("no last, place " + place, none, x -> x.within(0, 2));
            }
        });
    }

    private static void withinNoSuchWhat() {
        Scene.everyWay((kind, order) -> {
            for (int what : Scene.NOT_0_TO_2) {
                Refusal.illegal("some in range", Scene.busy(kind, order), x -> x.within(0, what));
                Refusal.illegal("none in range", noneInRange(kind, order, 1), x -> x.within(0, what));
            }
        });
    }

    private static void putWithinAsPut() {
        Scene.everyWay((kind, order) -> {
            TreeFamily x = Scene.after(Scene.busy(kind, order));
            Check.yes("a new entry", x.putWithin(0, Scene.between(order, 2), 5));
            Check.no("a new value", x.putWithin(0, Scene.alike(order, 2), 6));
            Check.same("the value", 6, x.get(0, Scene.key(order, 2)));
            Check.same("the key stays", Scene.key(order, 2), x.select(0, 2));
            Check.no("the first of the range", x.putWithin(0, Scene.alike(order, 1), 7));
            Check.yes("the last before the second", x.putWithin(0, Scene.between(order, 4), 8));
            Check.same("in their places", "[1000, 7, 6, 5, 1003, 1004, 8, 1005]", Scene.values(x, 0));
            Check.badState("a new entry is a change", () -> x.next(0));
            Check.yes("no range", Scene.after(y -> { }).putWithin(2, MIN, 1));
        });
    }

    private static void putWithinNotInRange() {
        Scene.everyWay((kind, order) -> {
            Scene.Deed busy = Scene.busy(kind, order);
            Refusal.illegal("an entry before it", busy, x -> x.putWithin(0, Scene.alike(order, 0), 1));
            Refusal.illegal("a new key before it", busy, x -> x.putWithin(0, Scene.between(order, 0), 1));
            Refusal.illegal("the second", busy, x -> x.putWithin(0, Scene.key(order, 5), 1));
            Refusal.illegal("alike to the second", busy, x -> x.putWithin(0, Scene.alike(order, 5), 1));
            Refusal.illegal("behind it", busy, x -> x.putWithin(0, Scene.between(order, 5), 1));
            Refusal.illegal("the least key", busy, x -> x.putWithin(0, MIN, 1));
            Refusal.illegal("the greatest key", busy, x -> x.putWithin(0, MAX, 1));
            Scene.Deed none = noneInRange(kind, order, 2);
            Refusal.illegal("a range of none", none, x -> x.putWithin(0, Scene.key(order, 3), 1));
            TreeFamily x = Scene.after(busy);
            Check.yes("put() does not look at the range", x.put(0, Scene.between(order, 0), 1));
        });
    }

    private static void putWithinThe61st() {
        Scene.everyWay((kind, order) -> {
            Scene.Deed full = Scene.full(kind, order);
            Refusal.outOfBounds("in range", full, x -> x.putWithin(0, Scene.between(order, 30), 1));
            Refusal.outOfBounds("at its end", full, x -> x.putWithin(0, Scene.between(order, 59), 1));
            Refusal.illegal("not in range", full, x -> x.putWithin(0, Scene.between(order, -1), 1));
            TreeFamily x = Scene.after(full);
            Check.no("a new value", x.putWithin(0, Scene.alike(order, 30), 5));
            Check.same("it is there", 5, x.get(0, Scene.key(order, 30)));
            x.remove(0, Scene.key(order, 30));
            Check.yes("the 60th", x.putWithin(0, Scene.between(order, 30), 1));
        });
    }

    private static void poll() {
        Scene.everyWay((kind, order) -> {
            TreeFamily x = Scene.after(Scene.busy(kind, order));
            int changes = x.changes(0);
            Check.same("the first one", Scene.key(order, 1), x.poll(0, false));
            Check.same("the last one", Scene.key(order, 4), x.poll(0, true));
            Check.same("they are removed", Scene.rowKeys(order, 0, 2, 3, 5), Scene.keys(x, 0));
            Check.same("the values stay", Scene.rowValues(0, 2, 3, 5), Scene.values(x, 0));
            Check.same("the last but one", Scene.key(order, 3), x.poll(0, true));
            Check.same("the only one", Scene.key(order, 2), x.poll(0, true));
            Check.outOfBounds("none", () -> x.poll(0, true));
            Check.same("not in range", Scene.rowKeys(order, 0, 5), Scene.keys(x, 0));
            Check.same("changes", changes + 4, x.changes(0));
        });
    }

    private static void pollAll() {
        Scene.everyWay((kind, order) -> {
            for (int way = 0; way < 3; way++) {
                TreeFamily x = Scene.row(kind, order, 60);
                int from = 0;
                int to = 60;
                while (from < to) {
                    boolean last = way == 1 || way == 2 && (from + to) % 3 == 0;
                    int due = last ? --to : from++;
                    Check.same("poll", Scene.key(order, due), x.poll(0, last));
                    Check.yes("audit", x.audit(0));
                }
                Check.same("none left", 0, x.size(0));
                Check.outOfBounds("no first", () -> x.poll(0, false));
                Check.outOfBounds("no last", () -> x.poll(0, true));
            }
        });
    }

    private static void pollNone() {
        Scene.everyWay((kind, order) -> {
            for (int place = 0; place < 5; place++) {
                Scene.Deed none = noneInRange(kind, order, place);
                Refusal.outOfBounds("no first, place " + place, none, x -> x.poll(0, false));
                Refusal.outOfBounds("no last, place " + place, none, x -> x.poll(0, true));
            }
        });
    }

    private static void iterateInPlace() {
        Scene.everyWay((kind, order) -> {
            TreeFamily x = Scene.after(Scene.busy(kind, order));
            x.next(0);
            x.iterate(0, false);
            Check.badState("it has given none", () -> x.drop(0));
            Check.same("from the beginning", Scene.key(order, 1), x.next(0));
            x.iterate(0, true);
            Check.same("the other way", Scene.key(order, 4), x.next(0));
            x.iterate(1, false);
            Check.same("another map's is its own", Scene.key(order, 3), x.next(0));
            Check.same("changes", 7, x.changes(0));
        });
    }

    private static void walk(String what, TreeFamily x, int order, int... places) {
        for (int place : places) {
            Check.same(what, Scene.key(order, place), x.next(0));
        }
        Check.outOfBounds(what + ", none more", () -> x.next(0));
    }

    private static void iterateInRange() {
        Scene.everyWay((kind, order) -> {
            TreeFamily x = Scene.row(kind, order, 60);
            x.iterate(0, false);
            walk("all 60", x, order, Scene.places(0, 60));
            x.range(0, 3, Scene.alike(order, 10), Scene.alike(order, 12));
            x.iterate(0, false);
            walk("the first, but not the second", x, order, 10, 11);
            x.range(0, 3, Scene.between(order, 10), Scene.between(order, 11));
            x.iterate(0, false);
            walk("just one", x, order, 11);
            x.range(0, 3, Scene.between(order, 10), Scene.key(order, 11));
            x.iterate(0, false);
            walk("none in range", x, order);
            x.iterate(1, false);
            Check.outOfBounds("an empty map", () -> x.next(1));
        });
    }

    private static void iterateBack() {
        Scene.everyWay((kind, order) -> {
            TreeFamily x = Scene.row(kind, order, 60);
            x.iterate(0, true);
            for (int i = 59; i >= 0; i--) {
                Check.same("all 60", Scene.key(order, i), x.next(0));
            }
            Check.outOfBounds("none more", () -> x.next(0));
            x.range(0, 3, Scene.alike(order, 10), Scene.alike(order, 12));
            x.iterate(0, true);
            walk("not the second, but the first", x, order, 11, 10);
            x.range(0, 3, Scene.between(order, 10), Scene.between(order, 11));
            x.iterate(0, true);
            walk("just one", x, order, 11);
            x.range(0, 3, Scene.between(order, 10), Scene.key(order, 11));
            x.iterate(0, true);
            walk("none in range", x, order);
            x.iterate(1, true);
            Check.outOfBounds("an empty map", () -> x.next(1));
        });
    }

    private static void iterateKnowsChanges() {
        Scene.everyWay((kind, order) -> {
            TreeFamily x = Scene.after(Scene.busy(kind, order));
            x.put(0, Scene.between(order, 1), 1);
            Check.badState("the one before does not", () -> x.next(0));
            x.iterate(0, false);
            Check.same("the new one does", Scene.key(order, 1), x.next(0));
            Check.same("and has the new entry", Scene.between(order, 1), x.next(0));
            x.make(0, kind, order);
            x.iterate(0, true);
            Check.outOfBounds("after make()", () -> x.next(0));
        });
    }

    private static void nextOfThose() {
        Scene.everyWay((kind, order) -> {
            TreeFamily x = Scene.after(Scene.busy(kind, order));
            x.range(0, 0, 0, 0);
            walk("a wider range", x, order, 2, 3, 4);
            x.iterate(0, true);
            x.range(0, 3, Scene.key(order, 2), Scene.key(order, 2));
            walk("a range of none", x, order, 5, 4, 3, 2, 1, 0);
            x.iterate(0, false);
            x.range(0, 0, 0, 0);
            walk("none in range when it came", x, order);
        });
    }

    private static void nextWithoutIterator() {
        Scene.everyWay((kind, order) -> {
            Scene.Deed busy = Scene.busy(kind, order);
            Scene.Deed row = x -> {
                x.make(0, kind, order);
                Scene.putRow(x, 0, order, 0, 5);
            };
            Refusal.badState("never any", row, x -> x.next(0));
            Scene.Deed made = x -> {
                busy.on(x);
                row.on(x);
            };
            Refusal.badState("before make()", made, x -> x.next(0));
            Scene.Deed split = x -> {
                busy.on(x);
                x.split(1, Scene.key(order, 4), 0);
            };
            Refusal.badState("before it came out of a split", split, x -> x.next(0));
            Scene.Deed splitOfNone = x -> {
                busy.on(x);
                x.split(1, Scene.key(order, 40), 0);
            };
            Refusal.badState("before a split that brought none", splitOfNone, x -> x.next(0));
        });
    }

    /** Deeds after which an iterator of map 0 does not know CHANGES. */
    private static Scene.Deed[] changing(int order) {
        return new Scene.Deed[] {
            x -> x.put(0, Scene.between(order, 3), 1),
            x -> x.putWithin(0, Scene.between(order, 3), 1),
            x -> x.remove(0, Scene.key(order, 4)),
            x -> x.remove(0, Scene.key(order, 0)),
            x -> x.poll(0, true),
            x -> x.poll(0, false),
            x -> x.join(0, 1, 0),
            x -> x.join(0, 1, 1),
            x -> x.join(0, 1, 2),
            x -> x.split(0, Scene.key(order, 5), 1),
            x -> {
                x.put(0, Scene.key(order, 7), 1);
                x.remove(0, Scene.key(order, 7));
            }
        };
    }

    private static Scene.Deed thenChanged(int kind, int order, Scene.Deed change) {
        return x -> {
            Scene.busy(kind, order).on(x);
            change.on(x);
        };
    }

    private static void nextAfterChanges() {
        Scene.everyWay((kind, order) -> {
            Scene.Deed[] all = changing(order);
            for (int i = 0; i < all.length; i++) {
                Refusal.badState("change " + i, thenChanged(kind, order, all[i]), x -> x.next(0));
            }
            Scene.Deed spent = x -> {
                Scene.busy(kind, order).on(x);
                walk("to the end", x, order, 2, 3, 4);
                x.put(0, Scene.key(order, 9), 1);
            };
            Refusal.badState("none more, and changed", spent, x -> x.next(0));
        });
    }

    private static void nextWithoutChanges() {
        Scene.everyWay((kind, order) -> {
            TreeFamily x = Scene.after(Scene.busy(kind, order));
            x.put(0, Scene.alike(order, 2), 5);
            x.putWithin(0, Scene.alike(order, 3), 5);
            x.remove(0, Scene.between(order, 3));
            x.join(0, 0, 0);
            x.join(0, 0, 1);
            Check.same("new values", Scene.key(order, 2), x.next(0));
            x.split(0, Scene.key(order, 6), 2);
            x.make(1, kind, order);
            x.put(1, 1, 1);
            x.join(0, 2, 0);
            x.join(0, 2, 2);
            Check.same("what other maps do", Scene.key(order, 3), x.next(0));
            Check.outOfBounds("refused", () -> x.get(0, MAX));
            Check.illegal("refused too", () -> x.make(0, 4, 0));
            Check.illegal("and refused", () -> x.putWithin(0, MIN, 0));
            Check.same("refused calls", Scene.key(order, 4), x.next(0));
        });
    }

    private static void nextNoneMore() {
        Scene.everyWay((kind, order) -> {
            Scene.Deed spent = x -> {
                Scene.busy(kind, order).on(x);
                walk("forth", x, order, 2, 3, 4);
            };
            Refusal.outOfBounds("forth", spent, x -> x.next(0));
            Scene.Deed spentBack = x -> {
                Scene.busy(kind, order).on(x);
                x.iterate(0, true);
                walk("back", x, order, 4, 3, 2, 1);
            };
            Refusal.outOfBounds("back", spentBack, x -> x.next(0));
            for (int place = 0; place < 5; place++) {
                Refusal.outOfBounds("place " + place, noneInRange(kind, order, place), x -> x.next(0));
            }
        });
    }

    private static void drop() {
        Scene.everyWay((kind, order) -> {
            TreeFamily x = Scene.after(Scene.busy(kind, order));
            x.drop(0);
            Check.same("the first in range", Scene.rowKeys(order, 0, 2, 3, 4, 5), Scene.keys(x, 0));
            x.next(0);
            x.next(0);
            x.drop(0);
            Check.same("the latest of two", Scene.rowKeys(order, 0, 2, 4, 5), Scene.keys(x, 0));
            Check.same("the values stay", Scene.rowValues(0, 2, 4, 5), Scene.values(x, 0));
            Check.yes("audit", x.audit(0));
            x.next(0);
            x.put(0, Scene.alike(order, 4), 9);
            x.range(0, 1, Scene.key(order, 5), 0);
            x.drop(0);
            Check.same("whatever its value and the range", Scene.rowKeys(order, 0, 2, 5), Scene.keys(x, 0));
        });
    }

    private static void dropKnowsChanges() {
        Scene.everyWay((kind, order) -> {
            for (int way = 0; way < 2; way++) {
                TreeFamily x = Scene.row(kind, order, 60);
                x.iterate(0, way == 1);
                for (int i = 0; i < 60; i++) {
                    Check.same("next", Scene.key(order, way == 1 ? 59 - i : i), x.next(0));
                    if (i % 3 != 1) {
                        x.drop(0);
                        Check.yes("audit", x.audit(0));
                    }
                }
                Check.outOfBounds("none more", () -> x.next(0));
                Check.same("20 are left", 20, x.size(0));
                Check.same("changes", 101, x.changes(0));
            }
            TreeFamily x = Scene.row(kind, order, 1);
            x.iterate(0, false);
            x.next(0);
            x.drop(0);
            Check.same("the only one", 0, x.size(0));
            Check.outOfBounds("then there is none more", () -> x.next(0));
        });
    }

    private static void dropWithoutIterator() {
        Scene.everyWay((kind, order) -> {
            Scene.Deed busy = Scene.busy(kind, order);
            Scene.Deed row = x -> {
                x.make(0, kind, order);
                Scene.putRow(x, 0, order, 0, 5);
            };
            Refusal.badState("never any", row, x -> x.drop(0));
            Scene.Deed made = x -> {
                busy.on(x);
                row.on(x);
            };
            Refusal.badState("before make()", made, x -> x.drop(0));
            Scene.Deed split = x -> {
                busy.on(x);
                x.split(1, Scene.key(order, 4), 0);
            };
            Refusal.badState("before it came out of a split", split, x -> x.drop(0));
        });
    }

    private static void dropAfterChanges() {
        Scene.everyWay((kind, order) -> {
            Scene.Deed[] all = changing(order);
            for (int i = 0; i < all.length; i++) {
                Refusal.badState("change " + i, thenChanged(kind, order, all[i]), x -> x.drop(0));
            }
            Scene.Deed removed = thenChanged(kind, order, x -> x.remove(0, Scene.key(order, 1)));
            Refusal.badState("the very key was removed", removed, x -> x.drop(0));
        });
    }

    private static void dropNoneGiven() {
        Scene.everyWay((kind, order) -> {
            for (int way = 0; way < 2; way++) {
                boolean back = way == 1;
                Scene.Deed anew = x -> {
                    Scene.busy(kind, order).on(x);
                    x.iterate(0, back);
                };
                Refusal.badState("a new iterator", anew, x -> x.drop(0));
                Scene.Deed empty = x -> {
                    x.make(0, kind, order);
                    x.iterate(0, back);
                    Check.outOfBounds("next", () -> x.next(0));
                };
                Refusal.badState("next() gave none", empty, x -> x.drop(0));
            }
        });
    }

    private static void dropTwice() {
        Scene.everyWay((kind, order) -> {
            for (int way = 0; way < 2; way++) {
                boolean back = way == 1;
                Scene.Deed dropped = x -> {
                    Scene.busy(kind, order).on(x);
                    x.iterate(0, back);
                    x.next(0);
                    x.next(0);
                    x.drop(0);
                };
                Refusal.badState("dropped", dropped, x -> x.drop(0));
                TreeFamily x = Scene.after(dropped);
                x.next(0);
                x.drop(0);
                Check.same("but the next one may go", 4, x.size(0));
            }
        });
    }

    /** What throws changes nothing, so next() that gave none leaves the key that it gave latest. */
    private static void dropAtTheEnd() {
        Scene.everyWay((kind, order) -> {
            TreeFamily x = Scene.after(Scene.busy(kind, order));
            walk("forth", x, order, 2, 3, 4);
            x.drop(0);
            Check.same("the last in range", Scene.rowKeys(order, 0, 1, 2, 3, 5), Scene.keys(x, 0));
            Check.outOfBounds("still none more", () -> x.next(0));
            x.iterate(0, true);
            walk("back", x, order, 3, 2, 1);
            x.drop(0);
            Check.same("the first in range", Scene.rowKeys(order, 0, 2, 3, 5), Scene.keys(x, 0));
            Check.outOfBounds("back, still none more", () -> x.next(0));
        });
    }
}
