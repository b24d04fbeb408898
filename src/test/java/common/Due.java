/** What a test checks its answers with: prints each that is not due, and ends with 1 if there was one. */
public final class Due {
    /** A call that is checked; one without an answer answers 0. */
    public interface Call {
        long run();
    }

    private static int wrong = 0;
    private static int checks = 0;

    private Due() {
    }

    /** The answer as text, or throws. and the exact exception's name. */
    public static String outcome(Call call) {
        try {
            return Long.toString(call.run());
        } catch (RuntimeException e) {
            return "throws." + e.getClass().getSimpleName();
        }
    }

    public static void same(String about, String got, String want) {
        checks++;
        if (!got.equals(want)) {
            wrong++;
            System.out.println(about + " answered " + got + ", due is " + want);
        }
    }

    public static void answer(String about, long want, Call call) {
        same(about, outcome(call), Long.toString(want));
    }

    public static void truth(String about, boolean got) {
        same(about, Boolean.toString(got), "true");
    }

    public static void noIndex(String about, Call call) {
        same(about, outcome(call), "throws.IndexOutOfBoundsException");
    }

    public static void noArgument(String about, Call call) {
        same(about, outcome(call), "throws.IllegalArgumentException");
    }

    public static void noRoom(String about, Call call) {
        same(about, outcome(call), "throws.UnsupportedOperationException");
    }

    public static void noElement(String about, Call call) {
        same(about, outcome(call), "throws.NoSuchElementException");
    }

    public static int wrongSoFar() {
        return wrong;
    }

    public static void end() {
        System.out.println(checks + " checks, " + wrong + " wrong");
        if (wrong != 0 || checks == 0) {
            System.exit(1);
        }
    }
}
