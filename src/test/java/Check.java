/** Counts what is not as due and ends the test with exit code 1 if there was anything. */
final class Check {
    interface Call {
        Object run();
    }

    interface Act {
        void run();
    }

    private static int wrong = 0;
    private static int done = 0;
    private static String about = "";

    private Check() {}

    /** The tests of a sentence of the document: what is wrong in them is told with its words. */
    static void sentence(String words, Act tests) {
        about = words + " | ";
        int before = done;
        String end = answer(tests);
        if (!end.equals("nothing thrown")) {
            fail("the test came to no end: " + end);
        }
        if (done == before) {
            fail("nothing was tested");
        }
        about = "";
    }

    static void same(String what, long due, long got) {
        done++;
        if (due != got) {
            fail(what + ": due is " + due + ", got " + got);
        }
    }

    static void same(String what, String due, String got) {
        done++;
        if (!due.equals(got)) {
            fail(what + ": due is " + due + ", got " + got);
        }
    }

    static void yes(String what, boolean got) {
        done++;
        if (!got) {
            fail(what + ": due is true");
        }
    }

    static void no(String what, boolean got) {
        yes(what + " (false)", !got);
    }

    static void illegal(String what, Act act) {
        same(what, "throws.IllegalArgumentException", answer(act));
    }

    static void outOfBounds(String what, Act act) {
        same(what, "throws.IndexOutOfBoundsException", answer(act));
    }

    static void badState(String what, Act act) {
        same(what, "throws.IllegalStateException", answer(act));
    }

    /** What a call answers, as a text; an exception by its very class. */
    static String answer(Call call) {
        try {
            return String.valueOf(call.run());
        } catch (RuntimeException thrown) {
            return "throws." + thrown.getClass().getSimpleName();
        }
    }

    private static String answer(Act act) {
        return answer((Call) () -> {
            act.run();
            return "nothing thrown";
        });
    }

    static void fail(String text) {
        wrong++;
        if (wrong <= 50) {
            System.out.println(about + text);
        }
    }

    static int failures() {
        return wrong;
    }

    static void end() {
        System.out.println(done + " checks, " + wrong + " not as due");
        if (wrong != 0) {
            System.exit(1);
        }
    }
}
