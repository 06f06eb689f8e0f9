/**
 * A call that the document refuses: it throws what is due, and "what throws changes nothing". What
 * has not changed is seen by twins: of two families that came the same way only one is asked for the
 * refused call, and both answer alike thereafter.
 */
final class Refusal {
    private static final int MAPS = 3;
    private static final int[] GRID = {
        Scene.MIN, Scene.MIN + 4, -48, -44, -40, -36, -32, -28, -24, -20, -16, -12, -8, -5, -4, -1, 0, 1, 3, 4, 8,
        12, 16, 20, 24, 28, 32, 36, 40, 44, 48, 472, 480, Scene.MAX
    };

    private interface Probe {
        void ask(TreeFamily x, int m, StringBuilder told);
    }

    /** Each one is asked of new twins, so that none is in the way of another, nor of the 512 calls. */
    private static final Probe[] PROBES = {
        Refusal::entries, Refusal::places, Refusal::walk, Refusal::latest, Refusal::range
    };

    private Refusal() {}

    static void illegal(String what, Scene.Deed before, Scene.Deed refused) {
        check(what, "throws.IllegalArgumentException", before, refused);
    }

    static void outOfBounds(String what, Scene.Deed before, Scene.Deed refused) {
        check(what, "throws.IndexOutOfBoundsException", before, refused);
    }

    static void badState(String what, Scene.Deed before, Scene.Deed refused) {
        check(what, "throws.IllegalStateException", before, refused);
    }

    private static void check(String what, String due, Scene.Deed before, Scene.Deed refused) {
        for (Probe probe : PROBES) {
            for (int m = 0; m < MAPS; m++) {
                TreeFamily asked = Scene.after(before);
                TreeFamily spared = Scene.after(before);
                Check.same(what, due, Check.answer(() -> {
                    refused.on(asked);
                    return "nothing thrown";
                }));
                Check.same(what + ", and nothing has changed", told(probe, spared, m), told(probe, asked, m));
            }
        }
    }

    private static String told(Probe probe, TreeFamily x, int m) {
        StringBuilder told = new StringBuilder();
        probe.ask(x, m, told);
        return told.toString();
    }

    private static void tell(StringBuilder told, Check.Call call) {
        told.append(Check.answer(call)).append(' ');
    }

    private static void entries(TreeFamily x, int m, StringBuilder told) {
        tell(told, () -> x.changes(m));
        tell(told, () -> x.audit(m));
        tell(told, () -> Scene.keys(x, m));
        tell(told, () -> Scene.values(x, m));
    }

    private static void places(TreeFamily x, int m, StringBuilder told) {
        for (int key : GRID) {
            tell(told, () -> x.rank(m, key));
            tell(told, () -> x.sum(m, key));
        }
    }

    private static void walk(TreeFamily x, int m, StringBuilder told) {
        for (int i = 0; i <= 60; i++) {
            tell(told, () -> x.next(m));
        }
        latest(x, m, told);
    }

    private static void latest(TreeFamily x, int m, StringBuilder told) {
        tell(told, () -> {
            x.drop(m);
            return "dropped";
        });
        tell(told, () -> x.next(m));
        entries(x, m, told);
    }

    private static void range(TreeFamily x, int m, StringBuilder told) {
        for (int what = 0; what < 3; what++) {
            int asked = what;
            tell(told, () -> x.within(m, asked));
        }
        for (int key : GRID) {
            tell(told, () -> x.putWithin(m, key, 7));
        }
        tell(told, () -> x.poll(m, true));
        tell(told, () -> x.poll(m, false));
    }
}
