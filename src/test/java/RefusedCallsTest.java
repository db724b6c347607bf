import java.util.List;
import java.util.function.Supplier;

/**
 * "Methods throw what their comments name, the one named first when several would do; a call that throws, or answers
 * NONE, changes nothing": each refused call is made in several states, and all that can be seen is compared.
 */
public final class RefusedCallsTest {
    private static final String NONE = "-1";
    private static final String IAE = "throws java.lang.IllegalArgumentException";
    private static final String ISE = "throws java.lang.IllegalStateException";
    private static final String NSEE = "throws java.util.NoSuchElementException";
    private static final int LEAST = Integer.MIN_VALUE;
    private static final int MOST = Integer.MAX_VALUE;

    private final String place;
    private final Supplier<Desk> state;
    private final List<String> before;

    private RefusedCallsTest(String place, Supplier<Desk> state) {
        this.place = place;
        this.state = state;
        before = state.get().allAnswers();
    }

    public static void main(String[] args) {
        Check.about("Terms", "a call that throws, or answers NONE, changes nothing");
        busyDeskIsBusy();
        emptyDesk();
        nodesAlone();
        makingRefused();
        bookingRefused();
        changingRefused();
        looksThatAnswerNone();
        whatIfBooksNothing();
        fullDesk();
        endOfTime();
        Check.about("Terms", "the one named first when several would do");
        nodeThrowsFirstNamed();
        contactThrowsFirstNamed();
        bookThrowsFirstNamed();
        cancelThrowsFirstNamed();
        Check.end();
    }

    /** The call answers what is due, and changes nothing. */
    private void refused(String due, String name, int... arguments) {
        Ask call = Ask.of(name, arguments);
        Desk desk = state.get();
        Check.due(place + ": " + call, due, Check.outcome(() -> desk.make(call)));
        Check.same(place + ": after " + call, Desk.EVERYTHING, before, desk.allAnswers());
    }

    private static Desk nodes() {
        return Desk.of(0, 1, 2, 3, 4);
    }

    /** NOW is 6; the parcels 0 .. 5 are booked, travelling, arrived, cancelled, lost, and booked by way of 3. */
    private static Desk busy() {
        Desk desk = Desk.of(4, 2, 0, 1, 3);
        desk.contact(0, 1, 2, 40);
        desk.contact(1, 2, 5, 9);
        desk.contact(0, 3, 8, 20);
        desk.contact(3, 4, 10, 12);
        desk.book(0, 1, 10);
        desk.book(1, 0, 6);
        desk.book(0, 1, 3);
        desk.book(0, 1, 4);
        desk.book(1, 2, 6);
        desk.book(0, 4, 9);
        desk.tickTo(4);
        desk.cancel(3);
        desk.tickTo(6);
        desk.cut(1, 2);
        return desk;
    }

    /** 24 contacts were made and 32 handles are given; NOW is 2. */
    private static Desk full() {
        Desk desk = Desk.of(1, 1, 1);
        for (int i = 0; i < 24; i++) {
            desk.contact(0, 1, 2 * i, 2 * i + 1);
        }
        for (int h = 0; h < 32; h++) {
            desk.book(h % 2, 1 - h % 2, h);
        }
        desk.tickTo(2);
        return desk;
    }

    private static Desk ended() {
        Desk desk = busy();
        desk.tickTo(64);
        return desk;
    }

    /** Else the comparisons would show less than they should. */
    private static void busyDeskIsBusy() {
        int[] due = {1, 2, 3, 4, 5, 1, 0};
        for (int h = 0; h < due.length; h++) {
            Check.due("state of " + h, due[h], busy().state(h));
        }
        Check.due("the last handle of the full desk", 1, full().state(31));
    }

    private static void emptyDesk() {
        RefusedCallsTest empty = new RefusedCallsTest("an empty desk", Desk::new);
        empty.refused(IAE, "node", -1, 0);
        empty.refused(IAE, "node", 8, 0);
        empty.refused(IAE, "node", 0, -1);
        empty.refused(IAE, "node", 0, 5);
        empty.refused(IAE, "contact", 0, 1, 0, 1);
        empty.refused(IAE, "book", 0, 1, 0);
        empty.refused(IAE, "whatIf", 0, 1, 0);
        empty.refused(NSEE, "cancel", 0);
        empty.refused(IAE, "cut", 0, 1);
        empty.refused(NONE, "where", 0);
        empty.refused(NONE, "arrival", 0);
        empty.refused(NONE, "step", 0, 0);
        empty.refused(NONE, "free", 0, 0);
    }

    private static void nodesAlone() {
        RefusedCallsTest alone = new RefusedCallsTest("nodes alone", RefusedCallsTest::nodes);
        alone.refused(ISE, "node", 0, 4);
        alone.refused(ISE, "node", 4, 0);
        alone.refused(IAE, "node", 5, 5);
        alone.refused(IAE, "node", 8, 1);
        alone.refused(IAE, "contact", 0, 0, 0, 1);
        alone.refused(IAE, "contact", 0, 5, 0, 1);
        alone.refused(IAE, "contact", 0, 1, 0, 0);
        alone.refused(IAE, "contact", 0, 1, 0, 65);
        alone.refused(NONE, "book", 4, 3, 0);
        alone.refused(NONE, "whatIf", 4, 3, 0);
        alone.refused("0", "cut", 4, 3);
    }

    private static void makingRefused() {
        RefusedCallsTest busy = new RefusedCallsTest("a busy desk", RefusedCallsTest::busy);
        busy.refused(ISE, "node", 5, 0);
        busy.refused(ISE, "node", 0, 1);
        busy.refused(IAE, "node", 8, 0);
        busy.refused(IAE, "node", LEAST, MOST);
        busy.refused(IAE, "contact", 5, 0, 6, 7);
        busy.refused(IAE, "contact", 0, -1, 6, 7);
        busy.refused(IAE, "contact", 2, 2, 6, 7);
        busy.refused(IAE, "contact", 0, 4, 5, 7);
        busy.refused(IAE, "contact", 0, 4, 7, 7);
        busy.refused(IAE, "contact", 0, 4, 7, 6);
        busy.refused(IAE, "contact", 0, 4, 63, 65);
        busy.refused(IAE, "contact", 0, 4, LEAST, MOST);
        busy.refused(ISE, "contact", 0, 1, 39, 41);
        busy.refused(ISE, "contact", 3, 0, 6, 9);
        busy.refused(ISE, "contact", 3, 0, 19, 64);
    }

    private static void bookingRefused() {
        RefusedCallsTest busy = new RefusedCallsTest("a busy desk", RefusedCallsTest::busy);
        for (String name : new String[] {"book", "whatIf"}) {
            busy.refused(IAE, name, 5, 0, 6);
            busy.refused(IAE, name, 0, 8, 6);
            busy.refused(IAE, name, 1, 1, 6);
            busy.refused(IAE, name, 0, 1, 5);
            busy.refused(IAE, name, 0, 1, 64);
            busy.refused(IAE, name, LEAST, MOST, LEAST);
            busy.refused(NONE, name, 0, 2, 6);
            busy.refused(NONE, name, 2, 1, 6);
            busy.refused(NONE, name, 0, 1, 40);
            busy.refused(NONE, name, 0, 4, 63);
        }
    }

    private static void changingRefused() {
        RefusedCallsTest busy = new RefusedCallsTest("a busy desk", RefusedCallsTest::busy);
        busy.refused(NSEE, "cancel", -1);
        busy.refused(NSEE, "cancel", 6);
        busy.refused(NSEE, "cancel", 32);
        busy.refused(NSEE, "cancel", LEAST);
        busy.refused(NSEE, "cancel", MOST);
        busy.refused(ISE, "cancel", 2);
        busy.refused(ISE, "cancel", 3);
        busy.refused(ISE, "cancel", 4);
        busy.refused(IAE, "cut", 0, 0);
        busy.refused(IAE, "cut", 0, 5);
        busy.refused(IAE, "cut", -1, 1);
        busy.refused(IAE, "cut", 8, 1);
        busy.refused(IAE, "cut", MOST, LEAST);
    }

    private static void looksThatAnswerNone() {
        RefusedCallsTest busy = new RefusedCallsTest("a busy desk", RefusedCallsTest::busy);
        for (int h : new int[] {0, 2, 3, 4, 6, -1}) {
            busy.refused(NONE, "where", h);
        }
        for (int h : new int[] {3, 4, 6, -1}) {
            busy.refused(NONE, "arrival", h);
        }
        busy.refused(NONE, "step", 0, 9);
        busy.refused(NONE, "step", 0, 64);
        busy.refused(NONE, "step", 6, 6);
        busy.refused(NONE, "free", 5, 6);
        busy.refused(NONE, "free", 0, 64);
        busy.refused(NONE, "free", 0, -1);
    }

    private static void whatIfBooksNothing() {
        RefusedCallsTest busy = new RefusedCallsTest("a busy desk", RefusedCallsTest::busy);
        busy.refused("7", "whatIf", 0, 1, 6);
        busy.refused("12", "whatIf", 0, 4, 6);
    }

    private static void fullDesk() {
        RefusedCallsTest full = new RefusedCallsTest("a full desk", RefusedCallsTest::full);
        full.refused(ISE, "contact", 0, 1, 63, 64);
        full.refused(ISE, "contact", 1, 2, 2, 64);
        full.refused(ISE, "book", 0, 1, 40);
        full.refused(ISE, "book", 0, 2, 40);
        full.refused(ISE, "whatIf", 0, 1, 40);
        full.refused(ISE, "whatIf", 0, 2, 40);
        full.refused(NSEE, "cancel", 32);
        full.refused(ISE, "cancel", 0);
    }

    private static void endOfTime() {
        RefusedCallsTest ended = new RefusedCallsTest("the end of time", RefusedCallsTest::ended);
        ended.refused(ISE, "tick");
        ended.refused(IAE, "contact", 0, 1, 63, 64);
        ended.refused(IAE, "contact", 0, 1, 64, 64);
        ended.refused(IAE, "contact", 0, 1, 64, 65);
        ended.refused(IAE, "book", 0, 1, 63);
        ended.refused(IAE, "book", 0, 1, 64);
        ended.refused(IAE, "whatIf", 0, 1, 64);
        ended.refused(ISE, "cancel", 0);
        ended.refused("0", "cut", 0, 1);
    }

    private static void nodeThrowsFirstNamed() {
        RefusedCallsTest busy = new RefusedCallsTest("node", RefusedCallsTest::busy);
        busy.refused(IAE, "node", 0, 5);
        busy.refused(IAE, "node", 0, -1);
        busy.refused(IAE, "node", 8, 0);
        busy.refused(IAE, "node", 5, 5);
        RefusedCallsTest alone = new RefusedCallsTest("node without contacts", RefusedCallsTest::nodes);
        alone.refused(IAE, "node", 0, 5);
    }

    private static void contactThrowsFirstNamed() {
        RefusedCallsTest busy = new RefusedCallsTest("contact", RefusedCallsTest::busy);
        busy.refused(IAE, "contact", 0, 1, 5, 8);
        busy.refused(IAE, "contact", 0, 1, 39, 65);
        busy.refused(IAE, "contact", 0, 1, 10, 10);
        RefusedCallsTest full = new RefusedCallsTest("contact on a full desk", RefusedCallsTest::full);
        full.refused(IAE, "contact", 0, 3, 60, 61);
        full.refused(IAE, "contact", 1, 1, 60, 61);
        full.refused(IAE, "contact", 0, 1, 1, 2);
        full.refused(IAE, "contact", 0, 1, 60, 60);
        full.refused(IAE, "contact", 0, 1, 60, 65);
    }

    private static void bookThrowsFirstNamed() {
        RefusedCallsTest full = new RefusedCallsTest("book on a full desk", RefusedCallsTest::full);
        for (String name : new String[] {"book", "whatIf"}) {
            full.refused(IAE, name, 0, 3, 40);
            full.refused(IAE, name, -1, 0, 40);
            full.refused(IAE, name, 1, 1, 40);
            full.refused(IAE, name, 0, 1, 1);
            full.refused(IAE, name, 0, 1, 64);
        }
    }

    /** The two never hold at once: a parcel that there is not has no state. */
    private static void cancelThrowsFirstNamed() {
        RefusedCallsTest full = new RefusedCallsTest("cancel on a full desk", RefusedCallsTest::full);
        full.refused(NSEE, "cancel", 32);
        full.refused(NSEE, "cancel", -1);
        full.refused(ISE, "cancel", 0);
    }
}
