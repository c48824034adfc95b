/** Counts answers that are not due, and ends a test with exit code 1 if there was one. */
final class Check {
    private static int checked = 0;
    private static int wrong = 0;

    private Check() {
    }

    static void is(String what, long got, long want) {
        checked++;
        if (got != want) {
            tell(what + ": answered " + got + ", due is " + want);
        }
    }

    static void is(String what, boolean got, boolean want) {
        checked++;
        if (got != want) {
            tell(what + ": answered " + got + ", due is " + want);
        }
    }

    static void is(String what, String got, String want) {
        checked++;
        if (!got.equals(want)) {
            tell(what + ": answered " + got + ", due is " + want);
        }
    }

    private static void tell(String text) {
        wrong++;
        if (wrong <= 50) {
            System.out.println(text);
        }
    }

    static void end() {
        System.out.println(checked + " answers, " + wrong + " wrong");
        if (wrong != 0 || checked == 0) {
            System.exit(1);
        }
    }
}
