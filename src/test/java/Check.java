/** Compares answers with those that are due, prints every wrong one, and ends with 1 if there was one. */
final class Check {
    /** A call that may throw. */
    interface Call {
        void run();
    }

    private static int done = 0;
    private static int wrong = 0;

    private Check() {
    }

    static void same(String what, long got, long due) {
        done++;
        if (got != due) {
            fail(what + " answered " + got + ", due is " + due);
        }
    }

    static void sameDot(String what, int got, int due) {
        done++;
        if (got != due) {
            fail(what + " answered " + Integer.toHexString(got) + ", due is " + Integer.toHexString(due));
        }
    }

    static void sameText(String what, String got, String due) {
        done++;
        if (!got.equals(due)) {
            fail(what + " is " + got + ", due is " + due);
        }
    }

    static void holds(String what, boolean right) {
        done++;
        if (!right) {
            fail(what);
        }
    }

    static void refuses(String what, Class<? extends RuntimeException> due, Call call) {
        done++;
        String thrown = "nothing";
        try {
            call.run();
        } catch (RuntimeException e) {
            thrown = e.getClass().getName();
        }
        if (!thrown.equals(due.getName())) {
            fail(what + " throws " + thrown + ", due is " + due.getName());
        }
    }

    static void refusesNumber(String what, Call call) {
        refuses(what, IllegalArgumentException.class, call);
    }

    private static void fail(String text) {
        wrong++;
        if (wrong <= 50) {
            System.out.println(text);
        }
    }

    static void finish() {
        System.out.println(done + " checks, " + wrong + " wrong");
        if (wrong != 0 || done == 0) {
            System.exit(1);
        }
    }
}
