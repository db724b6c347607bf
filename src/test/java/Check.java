/** Counts and prints the answers that are not as due; every test of the project ends with end(). */
final class Check {
    private static int checks = 0;
    private static int wrong = 0;

    /** A call that may throw. */
    interface Call {
        long answer();
    }

    private Check() {
    }

    static void due(String what, long want, long got) {
        checks++;
        if (got != want) {
            wrong++;
            System.out.println(what + " answered " + got + ", due is " + want);
        }
    }

    static void due(String what, boolean want, boolean got) {
        due(what, want ? 1 : 0, got ? 1 : 0);
    }

    static void due(String what, String want, String got) {
        checks++;
        if (!want.equals(got)) {
            wrong++;
            System.out.println(what + " answered " + got + ", due is " + want);
        }
    }

    /** The class of the exception must be the very one, not one below it. */
    static void throwing(String what, Class<? extends RuntimeException> want, Call call) {
        due(what, "throws " + want.getName(), outcome(call));
    }

    static String outcome(Call call) {
        try {
            return String.valueOf(call.answer());
        } catch (RuntimeException e) {
            return "throws " + e.getClass().getName();
        }
    }

    static void end() {
        System.out.println(checks + " checks, " + wrong + " wrong");
        if (wrong != 0 || checks == 0) {
            System.exit(1);
        }
    }
}
