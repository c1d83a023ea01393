import java.util.function.LongSupplier;

/** Counts and prints the answers that are not as due. */
final class Checks {
    private static int wrong = 0;
    private static int made = 0;
    /** What the checks are for: it is told ahead of each that is wrong. */
    private static String about = "";

    private Checks() {
    }

    static void about(String purpose) {
        about = purpose;
    }

    static void equal(String what, long want, long got) {
        made++;
        if (want != got) {
            wrong++;
            System.out.println(about + what + " answered " + got + ", due is " + want);
        }
    }

    static void isTrue(String what, boolean got) {
        equal(what, 1, got ? 1 : 0);
    }

    static void isFalse(String what, boolean got) {
        equal(what, 0, got ? 1 : 0);
    }

    static void text(String what, String want, String got) {
        made++;
        if (!want.equals(got)) {
            wrong++;
            System.out.println(about + what + " answered " + got + ", due is " + want);
        }
    }

    /** The answer as a text: the number, or throws. and the exception's name. */
    static String outcome(LongSupplier call) {
        try {
            return Long.toString(call.getAsLong());
        } catch (RuntimeException e) {
            return "throws." + e.getClass().getSimpleName();
        }
    }

    static void outOfBounds(String what, LongSupplier call) {
        text(what, "throws.IndexOutOfBoundsException", outcome(call));
    }

    static void illegal(String what, LongSupplier call) {
        text(what, "throws.IllegalArgumentException", outcome(call));
    }

    static void unsupported(String what, LongSupplier call) {
        text(what, "throws.UnsupportedOperationException", outcome(call));
    }

    static void noElement(String what, LongSupplier call) {
        text(what, "throws.NoSuchElementException", outcome(call));
    }

    static void finish() {
        System.out.println(made + " checks, " + wrong + " wrong");
        if (wrong != 0) {
            System.exit(1);
        }
    }
}
