import java.util.ArrayList;
import java.util.List;

/**
 * A RelayPassages that remembers its calls. The document promises nothing after the 512th call of an object, so no
 * test goes beyond it: what a few looks can't show is seen on fresh objects that were given the same calls.
 */
final class Desk {
    private static final int MOST_CALLS = 512;
    private static final List<Ask> LOOKS = looks();
    private static final List<Ask> CHANGES = changes();
    static final List<Ask> EVERYTHING = everything();

    private final RelayPassages desk = new RelayPassages();
    private final List<Ask> calls = new ArrayList<>();

    /** Nodes 0, 1, .. with these places. */
    static Desk of(int... places) {
        Desk desk = new Desk();
        for (int n = 0; n < places.length; n++) {
            desk.node(n, places[n]);
        }
        return desk;
    }

    int node(int n, int places) {
        return (int) make(Ask.of("node", n, places));
    }

    int contact(int a, int b, int from, int to) {
        return (int) make(Ask.of("contact", a, b, from, to));
    }

    int now() {
        return (int) make(Ask.of("now"));
    }

    int book(int source, int goal, int at) {
        return (int) make(Ask.of("book", source, goal, at));
    }

    int whatIf(int source, int goal, int at) {
        return (int) make(Ask.of("whatIf", source, goal, at));
    }

    int cancel(int h) {
        return (int) make(Ask.of("cancel", h));
    }

    int cut(int a, int b) {
        return (int) make(Ask.of("cut", a, b));
    }

    int tick() {
        return (int) make(Ask.of("tick"));
    }

    int state(int h) {
        return (int) make(Ask.of("state", h));
    }

    int where(int h) {
        return (int) make(Ask.of("where", h));
    }

    int arrival(int h) {
        return (int) make(Ask.of("arrival", h));
    }

    int step(int h, int t) {
        return (int) make(Ask.of("step", h, t));
    }

    int linkUsed(int a, int b, int t) {
        return (int) make(Ask.of("linkUsed", a, b, t));
    }

    int stored(int n, int t) {
        return (int) make(Ask.of("stored", n, t));
    }

    boolean open(int a, int b, int t) {
        return make(Ask.of("open", a, b, t)) == 1;
    }

    int free(int n, int t) {
        return (int) make(Ask.of("free", n, t));
    }

    /** A refused call is remembered too: what it changed, though it must not, shows on the fresh objects as well. */
    long make(Ask call) {
        if (calls.size() == MOST_CALLS) {
            throw new AssertionError("a test goes beyond the calls of one object");
        }
        calls.add(call);
        return call.answer(desk);
    }

    void tickTo(int tick) {
        for (int now = now(); now < tick; now++) {
            tick();
        }
    }

    int callsLeft() {
        return MOST_CALLS - calls.size();
    }

    /** What the looks answer now; this object itself is not looked at. */
    List<String> answersTo(List<Ask> looks) {
        List<String> answers = new ArrayList<>();
        RelayPassages twin = null;
        int left = 0;
        for (Ask look : looks) {
            if (left == 0) {
                twin = twin();
                left = callsLeft();
            }
            answers.add(look.outcome(twin));
            left--;
        }
        return answers;
    }

    /** What each of EVERYTHING answers now: the looks, then the changes, for each of which there is a fresh object. */
    List<String> allAnswers() {
        List<String> answers = answersTo(LOOKS);
        for (Ask change : CHANGES) {
            answers.add(change.outcome(twin()));
        }
        return answers;
    }

    private RelayPassages twin() {
        if (callsLeft() == 0) {
            throw new AssertionError("no call is left for a look");
        }
        RelayPassages twin = new RelayPassages();
        for (Ask call : calls) {
            call.outcome(twin);
        }
        return twin;
    }

    private static List<Ask> everything() {
        List<Ask> everything = new ArrayList<>(LOOKS);
        everything.addAll(CHANGES);
        return everything;
    }

    private static List<Ask> looks() {
        List<Ask> looks = new ArrayList<>();
        looks.add(Ask.of("now"));
        looks.addAll(looksAtParcels());
        looks.addAll(looksAtUses());
        return looks;
    }

    static List<Ask> looksAtParcels() {
        List<Ask> looks = new ArrayList<>();
        for (int h = -1; h <= 32; h++) {
            looks.add(Ask.of("state", h));
            looks.add(Ask.of("where", h));
            looks.add(Ask.of("arrival", h));
            for (int t = -1; t <= 65; t++) {
                looks.add(Ask.of("step", h, t));
            }
        }
        return looks;
    }

    static List<Ask> looksAtUses() {
        List<Ask> looks = new ArrayList<>();
        for (int t = -1; t <= 64; t++) {
            for (int a = 0; a < 8; a++) {
                looks.add(Ask.of("stored", a, t));
                looks.add(Ask.of("free", a, t));
                for (int b = 0; b < 8; b++) {
                    looks.add(Ask.of("linkUsed", a, b, t));
                    looks.add(Ask.of("open", a, b, t));
                }
            }
        }
        return looks;
    }

    private static List<Ask> changes() {
        List<Ask> changes = new ArrayList<>();
        changes.add(Ask.of("tick"));
        for (int h = 0; h < 32; h++) {
            changes.add(Ask.of("cancel", h));
        }
        for (int a = 0; a < 8; a++) {
            changes.add(Ask.of("node", a, 1));
            for (int b = 0; b < 8; b++) {
                changes.add(Ask.of("cut", a, b));
                changes.add(Ask.of("contact", a, b, 63, 64));
                changes.add(Ask.of("book", a, b, 10));
                changes.add(Ask.of("book", a, b, 63));
            }
        }
        return changes;
    }
}
