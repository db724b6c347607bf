import java.util.List;

/** Counts and prints the answers that are not as due; every test of the project ends with end(). */
final class Check {
    private static int checks = 0;
    private static int wrong = 0;
    private static int sentences = 0;
    private static String sentence = "";

    /** A call that may throw. */
    interface Call {
        long answer();
    }

    private Check() {
    }

    /** The checks from here on are about this sentence of the document. */
    static void about(String place, String words) {
        sentences++;
        sentence = place + " '" + words + "': ";
    }

    static void due(String what, long want, long got) {
        checks++;
        if (got != want) {
            wrong++;
            System.out.println(sentence + what + " answered " + got + ", due is " + want);
        }
    }

    static void due(String what, boolean want, boolean got) {
        due(what, want ? 1 : 0, got ? 1 : 0);
    }

    static void due(String what, String want, String got) {
        checks++;
        if (!want.equals(got)) {
            wrong++;
            System.out.println(sentence + what + " answered " + got + ", due is " + want);
        }
    }

    /** The class of the exception must be the very one, not one below it. */
    static void throwing(String what, Class<? extends RuntimeException> want, Call call) {
        due(what, "throws " + want.getName(), outcome(call));
    }

    /** The journey of parcel h has these nodes, the first one for the tick first, and no others. */
    static void journey(String what, Desk desk, int h, int first, int... nodes) {
        due(what + ": before the first tick", RelayPassages.NONE, desk.step(h, first - 1));
        for (int i = 0; i < nodes.length; i++) {
            due(what + ": node for tick " + (first + i), nodes[i], desk.step(h, first + i));
        }
        due(what + ": after the last tick", RelayPassages.NONE, desk.step(h, first + nodes.length));
    }

    /** The answers to many calls; the first difference alone is told. */
    static void same(String what, List<Ask> calls, List<String> want, List<String> got) {
        checks++;
        for (int i = 0; i < calls.size(); i++) {
            if (!want.get(i).equals(got.get(i))) {
                wrong++;
                System.out.println(sentence + what + ": " + calls.get(i) + " answered " + got.get(i)
                    + ", due is " + want.get(i));
                return;
            }
        }
    }

    static String outcome(Call call) {
        try {
            return String.valueOf(call.answer());
        } catch (RuntimeException e) {
            return "throws " + e.getClass().getName();
        }
    }

    static void end() {
        String told = sentences == 0 ? "" : sentences + " sentences, ";
        System.out.println(told + checks + " checks, " + wrong + " wrong");
        if (wrong != 0 || checks == 0) {
            System.exit(1);
        }
    }
}
