/** Counts answers that are not due, and ends a test with exit code 1 if there was one. */
final class Check {
    interface Call {
        void run();
    }

    private static int checked = 0;
    private static int wrong = 0;

    private Check() {
    }

    static void is(String what, long got, long want) {
        checked++;
        if (got != want) {
            tell(what + ": answered " + got + ", due is " + want);
        }
    }

    static void is(String what, boolean got, boolean want) {
        checked++;
        if (got != want) {
            tell(what + ": answered " + got + ", due is " + want);
        }
    }

    static void is(String what, String got, String want) {
        checked++;
        if (!got.equals(want)) {
            tell(what + ": answered " + got + ", due is " + want);
        }
    }

    /** No such number. */
    static void noNumber(String what, Call call) {
        fails(what, IndexOutOfBoundsException.class, call);
    }

    /** An argument out of range. */
    static void noRange(String what, Call call) {
        fails(what, IllegalArgumentException.class, call);
    }

    /** Not now. */
    static void noState(String what, Call call) {
        fails(what, IllegalStateException.class, call);
    }

    private static void fails(String what, Class<? extends RuntimeException> due, Call call) {
        String got = "nothing";
        try {
            call.run();
        } catch (RuntimeException e) {
            got = e.getClass().getName();
        }
        is(what + " throws", got, due.getName());
    }

    private static void tell(String text) {
        wrong++;
        if (wrong <= 50) {
            System.out.println(text);
        }
    }

    static void end() {
        System.out.println(checked + " answers, " + wrong + " wrong");
        if (wrong != 0 || checked == 0) {
            System.exit(1);
        }
    }
}
