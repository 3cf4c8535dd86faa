import java.util.NoSuchElementException;

/** Counts and prints the answers that are not the ones that are due. */
final class Check {
    static final Class<?> BOUNDS = IndexOutOfBoundsException.class;
    static final Class<?> ARGUMENT = IllegalArgumentException.class;
    static final Class<?> STATE = IllegalStateException.class;
    static final Class<?> MISSING = NoSuchElementException.class;
    static final Class<?> UNSUPPORTED = UnsupportedOperationException.class;
    static final Class<?> ARITHMETIC = ArithmeticException.class;

    /** A number that is out of every range, on either side. */
    static final int[] WILD = {-1, -2, Integer.MIN_VALUE, 1000, Integer.MAX_VALUE, Integer.MAX_VALUE - 5};

    interface Call {
        Object answer();
    }

    private static int checks = 0;
    private static int wrong = 0;

    private Check() {
    }

    static void due(String what, Object got, Object want) {
        checks++;
        if (!want.equals(got)) {
            wrong++;
            System.out.println(what + ": answered " + got + ", due is " + want);
        }
    }

    static void yes(String what, boolean got) {
        due(what, got, true);
    }

    static void no(String what, boolean got) {
        due(what, got, false);
    }

    static void fails(String what, Class<?> want, Call call) {
        Object got;
        try {
            got = call.answer();
        } catch (RuntimeException e) {
            got = thrown(e);
        }
        due(what, got, want);
    }

    /**
     * The class of an exception that Ferryroster throws by a throw statement; what the library or the machine throws
     * in it is never due, even if it is of the class that is.
     */
    static Object thrown(RuntimeException e) {
        StackTraceElement[] trace = e.getStackTrace();
        boolean isOfTheLibrary = trace.length == 0 || !trace[0].getClassName().startsWith("Ferryroster");
        boolean isOfADivision = "/ by zero".equals(e.getMessage());
        return isOfTheLibrary || isOfADivision ? "not by a throw statement: " + e : e.getClass();
    }

    static void end(String test) {
        System.out.println(test + ": " + checks + " checks, " + wrong + " wrong");
        if (wrong != 0) {
            System.exit(1);
        }
    }
}
