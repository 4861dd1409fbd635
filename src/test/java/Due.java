import java.util.function.DoubleSupplier;

/** Compares answers with what is due, prints every difference, and ends a test. */
final class Due {
    static final String BAD = "IllegalArgumentException";
    static final String STATE = "IllegalStateException";
    static final String ARITHMETIC = "ArithmeticException";
    static final String TRAPPED = "UnsupportedOperationException";

    private static int made = 0;
    private static int wrong = 0;
    private static String sentence = "";

    private Due() {
    }

    /** Tells which words of the document the answers from here on are about: it must have just these. */
    static void about(String words) {
        sentence = "\"" + words + "\": ";
        if (!Document.has(words)) {
            wrong++;
            System.out.println(sentence + "the document has no such words");
        }
    }

    /** What a call answers, or the name of what it throws. */
    static String outcome(DoubleSupplier call) {
        try {
            // Adding 0.0 makes no difference between the two zeros: the document has none.
            return String.valueOf(call.getAsDouble() + 0.0);
        } catch (RuntimeException e) {
            return e.getClass().getSimpleName();
        }
    }

    static void same(String what, String got, String want) {
        made++;
        if (!got.equals(want)) {
            wrong++;
            System.out.println(sentence + what + " answered " + got + ", due is " + want);
        }
    }

    static void answers(String what, double want, DoubleSupplier call) {
        same(what, outcome(call), String.valueOf(want + 0.0));
    }

    static void fails(String what, String exception, DoubleSupplier call) {
        same(what, outcome(call), exception);
    }

    /** For calls that answer nothing. */
    static DoubleSupplier doing(Runnable call) {
        return () -> {
            call.run();
            return 0.0;
        };
    }

    static void end() {
        System.out.println(made + " answers, " + wrong + " not as due");
        if (made == 0 || wrong != 0) {
            System.exit(1);
        }
    }
}
