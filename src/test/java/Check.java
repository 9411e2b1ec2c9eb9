/** Counts answers that are not as due; a test's main ends with finish(). */
final class Check {
    private int wrong;
    private int asked;

    void same(String what, long got, long due) {
        asked++;
        if (got != due) {
            wrong++;
            System.out.println(what + " answered " + got + ", due is " + due);
        }
    }

    void same(String what, String got, String due) {
        asked++;
        if (!got.equals(due)) {
            wrong++;
            System.out.println(what + " answered " + got + ", due is " + due);
        }
    }

    void yes(String what, boolean got) {
        same(what, got ? 1 : 0, 1);
    }

    void no(String what, boolean got) {
        same(what, got ? 1 : 0, 0);
    }

    /** What a call throws: the plain name of the exception, or "nothing". */
    static String thrownBy(Runnable call) {
        try {
            call.run();
            return "nothing";
        } catch (RuntimeException e) {
            return e.getClass().getSimpleName();
        }
    }

    void throwing(String what, String due, Runnable call) {
        same(what + " throws", thrownBy(call), due);
    }

    void index(String what, Runnable call) {
        throwing(what, "IndexOutOfBoundsException", call);
    }

    void argument(String what, Runnable call) {
        throwing(what, "IllegalArgumentException", call);
    }

    void state(String what, Runnable call) {
        throwing(what, "IllegalStateException", call);
    }

    void finish(String test) {
        System.out.println(test + ": " + asked + " answers, " + wrong + " not as due");
        if (wrong != 0) {
            System.exit(1);
        }
    }
}
