import java.util.NoSuchElementException;

/** Each sentence of the promises 1 to 9 that names a boundary has a test of its own here. */
public final class BoundaryPromisesTest {
    private static final int NONE = RelayPassages.NONE;
    private static final int BOOKED = RelayPassages.BOOKED;
    private static final int TRAVELLING = RelayPassages.TRAVELLING;
    private static final int ARRIVED = RelayPassages.ARRIVED;
    private static final int CANCELLED = RelayPassages.CANCELLED;
    private static final int LOST = RelayPassages.LOST;
    private static final int LEAST = Integer.MIN_VALUE;
    private static final int MOST = Integer.MAX_VALUE;
    private static final Class<IllegalArgumentException> IAE = IllegalArgumentException.class;
    private static final Class<IllegalStateException> ISE = IllegalStateException.class;
    private static final Class<NoSuchElementException> NSEE = NoSuchElementException.class;

    // No nodes of the desks below, which have 0 and 1 alone; 32, 33, 256 and the like are 0 or 1 when a shift or a
    // cast wraps them around.
    private static final int[] NO_NODES = {-1, 2, 7, 8, 9, -8, 16, 32, 33, 64, 65, 256, 257, 1 << 16, 1 << 29, LEAST,
        LEAST + 1, MOST, MOST - 1, -32, -31};
    private static final int[] NO_HANDLES = {-1, 1, 31, 32, 33, 64, 256, 1 << 16, LEAST, MOST, -32, -31};

    public static void main(String[] args) {
        promise1Empty();
        promise2Count();
        promise2NoSuchNumber();
        promise2NoSuchPlaces();
        promise2ThereIsOne();
        promise2ContactWasMade();
        promise3OpenTicks();
        promise3Count();
        promise3NoNode();
        promise3SameNode();
        promise3FromBeforeNow();
        promise3FromNotLessThanTo();
        promise3ToAbove();
        promise3Full();
        promise3OpenAlready();
        promise4Now();
        promise5NoWay();
        promise5NoNode();
        promise5SameNode();
        promise5AtBeforeNow();
        promise5AtAbove();
        promise5Full();
        promise6LastTick();
        promise6WithoutBooking();
        promise6NoWay();
        promise6Throws();
        promise7CountOfTicks();
        promise7NoParcel();
        promise7NotUnderWay();
        promise8OpenNoMore();
        promise8Touched();
        promise8NotTouched();
        promise8TouchedByEitherLink();
        promise8OnlyBookedOrTravelling();
        promise8AllCutOffFirst();
        promise8RisingHandles();
        promise8BookedFromItsSource();
        promise8TravellingFromNow();
        promise8Lost();
        promise8Wrong();
        promise9OneMore();
        promise9Arrivals();
        promise9AtTheEnd();
        Check.end();
    }

    /** Eight nodes, sixteen pairs open in this tick alone, and both links of each pair used by a parcel. */
    private static Desk fullTick(int tick) {
        Desk desk = Desk.of(0, 0, 0, 0, 0, 0, 0, 0);
        for (int a = 0; a < 4; a++) {
            for (int b = 4; b < 8; b++) {
                desk.contact(a, b, tick, tick + 1);
                desk.book(a, b, tick);
                desk.book(b, a, tick);
            }
        }
        return desk;
    }

    private static void promise1Empty() {
        Check.about("Promise 1", "No nodes, no contacts, no parcels");
        Desk desk = new Desk();
        Check.due("NOW", 0, desk.now());
        for (int n = 0; n < 8; n++) {
            Check.due("no node " + n, NONE, desk.free(n, 0));
            Check.due("nothing stored", 0, desk.stored(n, 0));
            Check.due("nothing open", false, desk.open(n, 7 - n, 0));
            Check.due("nothing used", 0, desk.linkUsed(n, 7 - n, 0));
        }
        for (int h = 0; h < 32; h++) {
            Check.due("no parcel " + h, 0, desk.state(h));
            Check.due("nowhere", NONE, desk.where(h));
            Check.due("no arrival", NONE, desk.arrival(h));
            Check.due("no journey", NONE, desk.step(h, 0));
        }
        Check.throwing("nothing to cancel", NSEE, () -> desk.cancel(0));
        Check.throwing("none to meet", IAE, () -> desk.contact(0, 1, 0, 1));
        Check.throwing("none to book", IAE, () -> desk.book(0, 1, 0));
        Check.throwing("none to ask for", IAE, () -> desk.whatIf(0, 1, 0));
        Check.throwing("none to cut", IAE, () -> desk.cut(0, 1));
        Check.due("time passes all the same", 0, desk.tick());
        Check.due("the first node", 1, desk.node(0, 0));
    }

    private static void promise2Count() {
        Check.about("Promise 2", "Makes node n with places: how many nodes there are then");
        Desk desk = new Desk();
        for (int n = 7; n >= 0; n--) {
            Check.due("node " + n, 8 - n, desk.node(n, 4));
        }
        Desk one = new Desk();
        one.node(3, 2);
        Check.due("its places", 2, one.free(3, 0));
        Check.due("none below it", NONE, one.free(2, 0));
        Check.due("none above it", NONE, one.free(4, 0));
    }

    private static void promise2NoSuchNumber() {
        Check.about("Promise 2", "IllegalArgumentException: n is not 0 .. 7");
        Desk desk = new Desk();
        for (int n : new int[] {-1, 8, 9, -8, 32, 39, 256, LEAST, MOST}) {
            Check.throwing("n " + n, IAE, () -> desk.node(n, 0));
            Check.due("no node " + n, NONE, desk.free(n, 0));
        }
        Check.due("the least one", 1, desk.node(0, 0));
        Check.due("the greatest one", 2, desk.node(7, 0));
    }

    private static void promise2NoSuchPlaces() {
        Check.about("Promise 2", "or places not 0 .. 4");
        Desk desk = new Desk();
        for (int places : new int[] {-1, 5, 6, 256, LEAST, MOST}) {
            Check.throwing("places " + places, IAE, () -> desk.node(0, places));
            Check.due("no node by that", NONE, desk.free(0, 0));
        }
        Check.due("the fewest", 1, desk.node(0, 0));
        Check.due("the most", 2, desk.node(1, 4));
        Check.due("fewest free", 0, desk.free(0, 0));
        Check.due("most free", 4, desk.free(1, 0));
    }

    private static void promise2ThereIsOne() {
        Check.about("Promise 2", "IllegalStateException: there is a node n");
        Desk desk = new Desk();
        for (int n = 0; n < 8; n++) {
            int again = n;
            desk.node(n, 1);
            Check.throwing("once more " + n, ISE, () -> desk.node(again, 1));
            Check.throwing("with other places", ISE, () -> desk.node(again, 4));
            Check.due("its places stay", 1, desk.free(n, 0));
        }
    }

    private static void promise2ContactWasMade() {
        Check.about("Promise 2", "or a contact was made");
        Desk desk = Desk.of(0, 0);
        Check.throwing("a contact that was refused", IAE, () -> desk.contact(0, 1, 0, 0));
        Check.due("is none that was made", 3, desk.node(2, 0));
        desk.tickTo(2);
        Check.due("later, too", 4, desk.node(3, 0));
        desk.contact(0, 1, 2, 3);
        Check.throwing("no node any more", ISE, () -> desk.node(4, 0));
        desk.cut(0, 1);
        Check.throwing("though it was cut", ISE, () -> desk.node(4, 0));
        desk.tickTo(64);
        Check.throwing("though it is past", ISE, () -> desk.node(4, 0));
    }

    private static void promise3OpenTicks() {
        Check.about("Promise 3", "the pair of a and b is open in the ticks from .. to - 1 besides");
        Desk desk = Desk.of(0, 0, 0);
        desk.contact(0, 1, 5, 6);
        desk.contact(0, 1, 0, 1);
        desk.contact(0, 1, 62, 64);
        for (int t = -1; t <= 64; t++) {
            Check.due("tick " + t, t == 0 || t == 5 || t == 62 || t == 63, desk.open(0, 1, t));
        }
        Check.due("no other pair", false, desk.open(0, 2, 5) || desk.open(1, 2, 5));
    }

    private static void promise3Count() {
        Check.about("Promise 3", "Answers how many contacts were made, with it");
        Desk desk = Desk.of(0, 0, 0);
        Check.due("the first", 1, desk.contact(0, 1, 0, 64));
        Check.throwing("a refused one", ISE, () -> desk.contact(0, 1, 0, 64));
        Check.due("the second", 2, desk.contact(2, 1, 0, 64));
        desk.cut(0, 1);
        desk.cut(1, 2);
        Check.due("cut ones were made", 3, desk.contact(0, 1, 63, 64));
    }

    private static void promise3NoNode() {
        Check.about("Promise 3", "IllegalArgumentException: a or b is no node");
        Desk desk = Desk.of(0, 0);
        for (int n : NO_NODES) {
            Check.throwing("a " + n, IAE, () -> desk.contact(n, 1, 0, 1));
            Check.throwing("b " + n, IAE, () -> desk.contact(0, n, 0, 1));
            Check.throwing("both " + n, IAE, () -> desk.contact(n, n, 0, 1));
        }
        Check.due("none was made", 1, desk.contact(0, 1, 0, 1));
    }

    private static void promise3SameNode() {
        Check.about("Promise 3", "or they are the same");
        Desk desk = Desk.of(4, 4);
        Check.throwing("0 and 0", IAE, () -> desk.contact(0, 0, 0, 1));
        Check.throwing("1 and 1", IAE, () -> desk.contact(1, 1, 0, 1));
        Check.due("none was made", 1, desk.contact(1, 0, 0, 1));
    }

    private static void promise3FromBeforeNow() {
        Check.about("Promise 3", "from is less than NOW");
        Desk desk = Desk.of(0, 0);
        for (int from : new int[] {-1, -64, LEAST}) {
            Check.throwing("NOW is 0, from " + from, IAE, () -> desk.contact(0, 1, from, 10));
        }
        desk.tickTo(7);
        for (int from : new int[] {6, 0, -1, LEAST}) {
            Check.throwing("NOW is 7, from " + from, IAE, () -> desk.contact(0, 1, from, 10));
        }
        Check.throwing("wholly in the past", IAE, () -> desk.contact(0, 1, 5, 7));
        Check.due("nothing was opened", false, desk.open(0, 1, 6) || desk.open(0, 1, 7));
        Check.due("from NOW", 1, desk.contact(0, 1, 7, 10));
        desk.tickTo(63);
        Check.due("from NOW, the last tick", 2, desk.contact(0, 1, 63, 64));
        desk.tick();
        Check.throwing("NOW is 64, from 63", IAE, () -> desk.contact(0, 1, 63, 64));
        Check.throwing("NOW is 64, from 64", IAE, () -> desk.contact(0, 1, 64, 64));
        Check.throwing("NOW is 64, to 65", IAE, () -> desk.contact(0, 1, 64, 65));
    }

    private static void promise3FromNotLessThanTo() {
        Check.about("Promise 3", "or not less than to");
        Desk desk = Desk.of(0, 0);
        Check.throwing("no tick at all", IAE, () -> desk.contact(0, 1, 5, 5));
        Check.throwing("no tick at all at the start", IAE, () -> desk.contact(0, 1, 0, 0));
        Check.throwing("no tick at all at the end", IAE, () -> desk.contact(0, 1, 64, 64));
        Check.throwing("one less", IAE, () -> desk.contact(0, 1, 5, 4));
        Check.throwing("far less", IAE, () -> desk.contact(0, 1, 5, LEAST));
        Check.throwing("the two ends", IAE, () -> desk.contact(0, 1, MOST, LEAST));
        Check.due("nothing was opened", false, desk.open(0, 1, 4) || desk.open(0, 1, 5));
        Check.due("one tick", 1, desk.contact(0, 1, 5, 6));
    }

    private static void promise3ToAbove() {
        Check.about("Promise 3", "or to is above 64");
        Desk desk = Desk.of(0, 0);
        for (int to : new int[] {65, 66, 128, MOST}) {
            Check.throwing("to " + to, IAE, () -> desk.contact(0, 1, 63, to));
            Check.throwing("from 64 to " + to, IAE, () -> desk.contact(0, 1, 64, to));
        }
        Check.throwing("at the very end", IAE, () -> desk.contact(0, 1, MOST - 1, MOST));
        Check.due("nothing was opened", false, desk.open(0, 1, 63));
        Check.due("to 64", 1, desk.contact(0, 1, 63, 64));
        Check.due("open in its last tick", true, desk.open(0, 1, 63));
    }

    private static void promise3Full() {
        Check.about("Promise 3", "IllegalStateException: 24 contacts were made");
        Desk desk = Desk.of(0, 0, 0);
        for (int i = 0; i < 24; i++) {
            Check.due("contact " + i, i + 1, desk.contact(0, 1, i, i + 1));
        }
        Check.throwing("a 25th", ISE, () -> desk.contact(0, 1, 24, 25));
        Check.throwing("of another pair", ISE, () -> desk.contact(1, 2, 24, 25));
        Check.due("it was not opened", false, desk.open(0, 1, 24) || desk.open(1, 2, 24));
        desk.cut(0, 1);
        Check.throwing("a cut makes no room", ISE, () -> desk.contact(0, 1, 0, 1));
        desk.tickTo(30);
        Check.throwing("time makes no room", ISE, () -> desk.contact(0, 1, 40, 41));
    }

    private static void promise3OpenAlready() {
        Check.about("Promise 3", "or the pair is open in one of these ticks");
        Desk desk = Desk.of(0, 0, 0);
        desk.contact(0, 1, 5, 8);
        int[][] overlaps = {{5, 8}, {4, 6}, {7, 9}, {6, 7}, {0, 64}, {5, 6}, {7, 8}};
        for (int[] o : overlaps) {
            Check.throwing(o[0] + " to " + o[1], ISE, () -> desk.contact(0, 1, o[0], o[1]));
            Check.throwing("the other way, " + o[0] + " to " + o[1], ISE, () -> desk.contact(1, 0, o[0], o[1]));
        }
        Check.due("nothing was opened before", false, desk.open(0, 1, 4));
        Check.due("nothing was opened after", false, desk.open(0, 1, 8));
        Check.due("up to it", 2, desk.contact(0, 1, 4, 5));
        Check.due("right after it", 3, desk.contact(0, 1, 8, 9));
        Check.due("another pair in the same ticks", 4, desk.contact(0, 2, 5, 8));
        desk.tickTo(7);
        desk.cut(0, 1);
        Check.due("a cut one is not open", 5, desk.contact(0, 1, 7, 9));
    }

    private static void promise4Now() {
        Check.about("Promise 4", "NOW");
        Desk desk = new Desk();
        for (int t = 0; t < 64; t++) {
            Check.due("NOW", t, desk.now());
            desk.tick();
        }
        Check.due("NOW at the end", 64, desk.now());
        Check.due("NOW asked again", 64, desk.now());
    }

    private static void promise5NoWay() {
        Check.about("Promise 5", "Answers its handle; NONE when there is no way");
        Desk desk = Desk.of(4, 4, 4);
        Check.due("no contacts at all", NONE, desk.book(0, 1, 0));
        desk.contact(0, 1, 5, 6);
        Check.due("none to that node", NONE, desk.book(0, 2, 0));
        Check.due("too late for the contact", NONE, desk.book(0, 1, 6));
        Check.due("just in time", 0, desk.book(0, 1, 5));
        Check.due("taken", NONE, desk.book(0, 1, 5));
        Check.due("nothing is booked by that", 0, desk.state(1));
        Check.due("the next handle", 1, desk.book(1, 0, 5));
    }

    private static void promise5NoNode() {
        Check.about("Promise 5", "IllegalArgumentException: source or goal is no node");
        Desk desk = Desk.of(4, 4);
        desk.contact(0, 1, 0, 64);
        for (int n : NO_NODES) {
            Check.throwing("source " + n, IAE, () -> desk.book(n, 1, 0));
            Check.throwing("goal " + n, IAE, () -> desk.book(0, n, 0));
        }
        Check.due("none was booked", 0, desk.book(0, 1, 0));
    }

    private static void promise5SameNode() {
        Check.about("Promise 5", "or they are the same");
        Desk desk = Desk.of(4, 4);
        desk.contact(0, 1, 0, 64);
        Check.throwing("0 to 0", IAE, () -> desk.book(0, 0, 0));
        Check.throwing("1 to 1", IAE, () -> desk.book(1, 1, 63));
        Check.throwing("no node twice", IAE, () -> desk.book(2, 2, 0));
        Check.due("none was booked", 0, desk.state(0));
    }

    private static void promise5AtBeforeNow() {
        Check.about("Promise 5", "at is less than NOW");
        Desk desk = Desk.of(0, 0);
        desk.contact(0, 1, 0, 64);
        for (int at : new int[] {-1, -64, LEAST}) {
            Check.throwing("NOW is 0, at " + at, IAE, () -> desk.book(0, 1, at));
        }
        Check.due("NOW is 0, at 0", 0, desk.book(0, 1, 0));
        desk.tickTo(9);
        for (int at : new int[] {8, 0, -1, LEAST}) {
            Check.throwing("NOW is 9, at " + at, IAE, () -> desk.book(0, 1, at));
        }
        Check.due("NOW is 9, at 9", 1, desk.book(0, 1, 9));
        desk.tickTo(63);
        Check.throwing("NOW is 63, at 62", IAE, () -> desk.book(0, 1, 62));
        Check.due("NOW is 63, at 63", 2, desk.book(0, 1, 63));
    }

    private static void promise5AtAbove() {
        Check.about("Promise 5", "or above 63");
        Desk desk = Desk.of(0, 0);
        desk.contact(0, 1, 0, 64);
        for (int at : new int[] {64, 65, 128, MOST}) {
            Check.throwing("at " + at, IAE, () -> desk.book(0, 1, at));
        }
        Check.due("at 63", 0, desk.book(0, 1, 63));
        desk.tickTo(64);
        Check.throwing("NOW is 64, at 64", IAE, () -> desk.book(0, 1, 64));
        Check.throwing("NOW is 64, at 63", IAE, () -> desk.book(0, 1, 63));
    }

    private static void promise5Full() {
        Check.about("Promise 5", "IllegalStateException: 32 handles are given");
        Desk desk = Desk.of(0, 0, 0);
        desk.contact(0, 1, 0, 64);
        for (int h = 0; h < 32; h++) {
            Check.due("handle", h, desk.book(0, 1, h));
        }
        Check.throwing("one more", ISE, () -> desk.book(0, 1, 40));
        Check.throwing("one more without a way", ISE, () -> desk.book(0, 2, 40));
        desk.cancel(31);
        Check.throwing("a cancelled one makes no room", ISE, () -> desk.book(0, 1, 31));
        desk.tick();
        Check.throwing("an arrived one makes no room", ISE, () -> desk.book(0, 1, 40));
        desk.cut(0, 1);
        desk.contact(0, 1, 1, 64);
        Check.throwing("a lost one makes no room", ISE, () -> desk.book(0, 1, 40));
        Check.due("nothing is used by that", 0, desk.linkUsed(0, 1, 40));
    }

    private static void promise6LastTick() {
        Check.about("Promise 6", "The last tick of the journey that book() would give");
        Desk desk = Desk.of(1, 1);
        desk.contact(0, 1, 0, 1);
        desk.contact(0, 1, 63, 64);
        Check.due("the least one", 1, desk.whatIf(0, 1, 0));
        Check.due("the greatest one", 64, desk.whatIf(0, 1, 1));
        Check.due("the greatest one from 63", 64, desk.whatIf(1, 0, 63));
        desk.book(0, 1, 1);
        Check.due("as booked", 64, desk.arrival(0));
    }

    private static void promise6WithoutBooking() {
        Check.about("Promise 6", "without booking");
        Desk desk = Desk.of(1, 0);
        desk.contact(0, 1, 3, 4);
        Check.due("asked", 4, desk.whatIf(0, 1, 2));
        Check.due("asked again", 4, desk.whatIf(0, 1, 2));
        Check.due("no parcel", 0, desk.state(0));
        Check.due("no place", 1, desk.free(0, 2));
        Check.due("no link", 0, desk.linkUsed(0, 1, 3));
        Check.due("the first handle is there still", 0, desk.book(0, 1, 2));
        Check.journey("parcel 0", desk, 0, 2, 0, 0, 1);
    }

    private static void promise6NoWay() {
        Check.about("Promise 6", "NONE when there is no way");
        Desk desk = Desk.of(0, 0);
        Check.due("no contacts at all", NONE, desk.whatIf(0, 1, 0));
        desk.contact(0, 1, 5, 6);
        Check.due("no place to wait", NONE, desk.whatIf(0, 1, 4));
        Check.due("too late", NONE, desk.whatIf(0, 1, 6));
        desk.book(0, 1, 5);
        Check.due("taken", NONE, desk.whatIf(0, 1, 5));
        Check.due("NONE in the last tick", NONE, desk.whatIf(0, 1, 63));
    }

    private static void promise6Throws() {
        Check.about("Promise 6", "It throws as book() does");
        Desk desk = Desk.of(0, 0, 0);
        desk.contact(0, 1, 0, 64);
        desk.tick();
        for (int n : NO_NODES) {
            int wrong = n == 2 ? 3 : n;
            Check.throwing("source " + wrong, IAE, () -> desk.whatIf(wrong, 1, 1));
            Check.throwing("goal " + wrong, IAE, () -> desk.whatIf(0, wrong, 1));
        }
        Check.throwing("the same", IAE, () -> desk.whatIf(1, 1, 1));
        for (int at : new int[] {0, -1, LEAST, 64, 65, MOST}) {
            Check.throwing("at " + at, IAE, () -> desk.whatIf(0, 1, at));
        }
        for (int h = 0; h < 32; h++) {
            Check.due("there is room for " + h, h + 2, desk.whatIf(0, 1, h + 1));
            desk.book(0, 1, h + 1);
        }
        Check.throwing("32 handles are given", ISE, () -> desk.whatIf(0, 1, 40));
        Check.throwing("32 handles, and no way", ISE, () -> desk.whatIf(0, 2, 40));
        desk.tickTo(64);
        Check.throwing("NOW is 64", IAE, () -> desk.whatIf(0, 1, 64));
    }

    private static void promise7CountOfTicks() {
        Check.about("Promise 7", "Cancels a parcel: for how many ticks its journey uses less than before");
        Desk desk = Desk.of(4, 0);
        desk.contact(0, 1, 10, 11);
        desk.contact(0, 1, 63, 64);
        desk.contact(0, 1, 4, 5);
        desk.book(0, 1, 0);
        desk.book(0, 1, 3);
        desk.book(0, 1, 11);
        desk.book(1, 0, 63);
        desk.book(1, 0, 4);
        desk.tickTo(4);
        Check.due("one that is under way, in the tick before its last", 1, desk.cancel(0));
        Check.due("one that is under way, with many ticks left", 7, desk.cancel(1));
        Check.due("a booked one uses nothing any more", 53, desk.cancel(2));
        Check.due("a booked one of one tick", 1, desk.cancel(3));
        Check.due("one in its first tick", 1, desk.cancel(4));
        for (int h = 0; h < 5; h++) {
            Check.due("cancelled " + h, CANCELLED, desk.state(h));
        }
        Desk longest = Desk.of(1, 0);
        longest.contact(0, 1, 63, 64);
        longest.book(0, 1, 0);
        Check.due("the longest one in its first tick", 64, longest.cancel(0));
        Check.journey("parcel 0", longest, 0, 0, 0);
        Check.due("it uses nothing", 1, longest.free(0, 0));
    }

    private static void promise7NoParcel() {
        Check.about("Promise 7", "NoSuchElementException: there is no such parcel");
        Desk desk = Desk.of(0, 0);
        desk.contact(0, 1, 0, 64);
        Check.throwing("no parcel at all", NSEE, () -> desk.cancel(0));
        desk.book(0, 1, 3);
        for (int h : NO_HANDLES) {
            Check.throwing("handle " + h, NSEE, () -> desk.cancel(h));
        }
        Check.due("the one there is", BOOKED, desk.state(0));
        for (int h = 1; h < 32; h++) {
            desk.book(0, 1, 3 + h);
        }
        Check.throwing("behind the last of all", NSEE, () -> desk.cancel(32));
        Check.due("the last of all", 1, desk.cancel(31));
    }

    private static void promise7NotUnderWay() {
        Check.about("Promise 7", "IllegalStateException: it is neither booked nor travelling");
        Desk desk = Desk.of(1, 0);
        desk.contact(0, 1, 4, 8);
        desk.book(0, 1, 3);
        desk.book(0, 1, 5);
        desk.book(0, 1, 6);
        desk.cancel(1);
        Check.throwing("cancelled", ISE, () -> desk.cancel(1));
        desk.tickTo(5);
        Check.throwing("arrived in this tick", ISE, () -> desk.cancel(0));
        desk.cut(0, 1);
        Check.throwing("lost", ISE, () -> desk.cancel(2));
        Check.due("cancelled it stays", CANCELLED, desk.state(1));
        Check.due("arrived it stays", ARRIVED, desk.state(0));
        Check.due("lost it stays", LOST, desk.state(2));
        Desk last = Desk.of(0, 0);
        last.contact(0, 1, 63, 64);
        last.book(0, 1, 63);
        last.tickTo(64);
        Check.throwing("arrived at 64", ISE, () -> last.cancel(0));
    }

    private static void promise8OpenNoMore() {
        Check.about("Promise 8", "The pair of a and b is open no more in all ticks from NOW on");
        Desk desk = Desk.of(0, 0, 0);
        desk.contact(0, 1, 0, 64);
        desk.contact(1, 2, 0, 64);
        desk.tickTo(5);
        Check.due("none lost", 0, desk.cut(0, 1));
        Check.due("the tick before NOW", true, desk.open(0, 1, 4));
        Check.due("NOW", false, desk.open(0, 1, 5));
        Check.due("the last tick", false, desk.open(0, 1, 63));
        Check.due("another pair", true, desk.open(1, 2, 5));
        desk.tickTo(64);
        Check.due("NOW is 64", 0, desk.cut(1, 2));
        Check.due("nothing is left to close", true, desk.open(1, 2, 63));
        Desk last = Desk.of(0, 0);
        last.contact(0, 1, 0, 64);
        last.tickTo(63);
        last.cut(1, 0);
        Check.due("NOW is 63: the last tick", false, last.open(0, 1, 63));
        Check.due("NOW is 63: the tick before", true, last.open(0, 1, 62));
    }

    private static void promise8Touched() {
        Check.about("Promise 8", "whose journeys use one of its two links in one of those ticks are TOUCHED");
        Desk desk = Desk.of(0, 0, 1);
        desk.contact(0, 1, 4, 6);
        desk.contact(1, 2, 5, 64);
        desk.book(0, 2, 4);
        desk.book(0, 2, 5);
        desk.book(1, 2, 7);
        desk.tickTo(5);
        Check.due("one is lost", 1, desk.cut(0, 1));
        Check.due("used in the tick before NOW: not touched", TRAVELLING, desk.state(0));
        Check.journey("parcel 0", desk, 0, 4, 0, 1, 2);
        Check.due("used in NOW: touched", LOST, desk.state(1));
        Check.due("used by no link of it: not touched", BOOKED, desk.state(2));
        Desk last = Desk.of(1, 0);
        last.contact(0, 1, 63, 64);
        last.book(0, 1, 62);
        Check.due("used in the last tick of all: touched", 1, last.cut(0, 1));
        Desk none = Desk.of(0, 0, 0);
        none.contact(0, 1, 0, 64);
        none.book(0, 1, 3);
        Check.due("a pair that was never open touches none", 0, none.cut(1, 2));
        Check.due("it goes on", BOOKED, none.state(0));
    }

    /** Parcel 1 goes from 0 by 1 to 2 and waits for a link that is free by now: booked anew it would arrive sooner. */
    private static Desk slowerThanNeedBe(int at) {
        Desk desk = Desk.of(1, 4, 0, 0);
        desk.contact(0, 1, at, at + 1);
        desk.contact(1, 2, at + 2, at + 4);
        desk.contact(2, 3, at, at + 1);
        desk.contact(0, 3, at + 1, at + 4);
        desk.book(1, 2, at + 2);
        desk.book(0, 2, at);
        desk.cancel(0);
        return desk;
    }

    private static void promise8NotTouched() {
        Check.about("Promise 8", "use one of its two links in one of those ticks: all others keep their journeys");
        int[][] others = {{2, 3}, {3, 2}, {0, 3}, {3, 0}, {1, 3}, {0, 2}, {2, 0}};
        for (int[] pair : others) {
            Desk booked = slowerThanNeedBe(60);
            Check.due("another pair", 0, booked.cut(pair[0], pair[1]));
            Check.journey("booked, to 64", booked, 1, 60, 0, 1, 1, 1, 2);
            Desk travelling = slowerThanNeedBe(4);
            travelling.tickTo(5);
            Check.due("another pair", 0, travelling.cut(pair[0], pair[1]));
            Check.journey("travelling", travelling, 1, 4, 0, 1, 1, 1, 2);
        }
        Desk gone = slowerThanNeedBe(4);
        gone.tickTo(5);
        Check.due("its pair, but in the tick before NOW", 0, gone.cut(0, 1));
        Check.journey("gone from there", gone, 1, 4, 0, 1, 1, 1, 2);
        gone.tick();
        Check.due("its pair, but two ticks before NOW", 0, gone.cut(1, 0));
        Check.journey("long gone from there", gone, 1, 4, 0, 1, 1, 1, 2);
        Check.due("the pair that it will use", 1, gone.cut(2, 1));
    }

    private static void promise8TouchedByEitherLink() {
        Check.about("Promise 8", "one of its two links");
        for (int[] order : new int[][] {{0, 1}, {1, 0}}) {
            Desk desk = Desk.of(0, 0);
            desk.contact(0, 1, 5, 7);
            desk.book(0, 1, 5);
            desk.book(1, 0, 5);
            desk.book(1, 0, 6);
            Check.due("all three are lost", 3, desk.cut(order[0], order[1]));
            Check.due("no use of the one", 0, desk.linkUsed(0, 1, 5));
            Check.due("no use of the other", 0, desk.linkUsed(1, 0, 5) + desk.linkUsed(1, 0, 6));
        }
    }

    private static void promise8OnlyBookedOrTravelling() {
        Check.about("Promise 8", "The parcels, booked or travelling");
        Desk desk = Desk.of(0, 0);
        desk.contact(0, 1, 4, 9);
        desk.book(0, 1, 4);
        desk.book(1, 0, 5);
        desk.book(0, 1, 6);
        desk.book(0, 1, 7);
        desk.cancel(3);
        desk.tickTo(5);
        Check.due("one travels and one is booked", 2, desk.cut(0, 1));
        Check.due("arrived in this tick", ARRIVED, desk.state(0));
        Check.due("its arrival", 5, desk.arrival(0));
        Check.due("its use", 1, desk.linkUsed(0, 1, 4));
        Check.due("travelling", LOST, desk.state(1));
        Check.due("booked", LOST, desk.state(2));
        Check.due("cancelled", CANCELLED, desk.state(3));
        Check.due("those that are lost are not touched again", 0, desk.cut(0, 1));
    }

    private static void promise8AllCutOffFirst() {
        Check.about("Promise 8", "First the journeys of all touched ones are cut off");
        Desk desk = Desk.of(0, 0, 0, 0);
        desk.contact(0, 1, 5, 6);
        desk.contact(0, 2, 5, 6);
        desk.contact(1, 3, 6, 8);
        desk.contact(2, 1, 6, 7);
        desk.contact(2, 3, 6, 7);
        desk.book(2, 3, 6);
        desk.book(0, 3, 5);
        desk.book(0, 3, 5);
        desk.cancel(0);
        Check.journey("parcel 1", desk, 1, 5, 0, 1, 3);
        Check.journey("parcel 2", desk, 2, 5, 0, 2, 1, 3);
        Check.due("one way is left for the two", 1, desk.cut(1, 3));
        Check.journey("parcel 1", desk, 1, 5, 0, 2, 3);
        Check.due("the lower one has the link that the higher one gave back", BOOKED, desk.state(1));
        Check.due("the higher one is lost", LOST, desk.state(2));
    }

    private static void promise8RisingHandles() {
        Check.about("Promise 8", "Then, by rising handles, each of them gets the best way that there is then");
        Desk desk = Desk.of(0, 4, 0);
        desk.contact(1, 2, 5, 9);
        desk.contact(1, 0, 5, 9);
        desk.contact(0, 2, 10, 14);
        desk.contact(1, 0, 9, 14);
        desk.book(1, 2, 8);
        desk.book(1, 2, 7);
        desk.book(1, 2, 6);
        desk.book(1, 2, 5);
        Check.due("none is lost", 0, desk.cut(1, 2));
        Check.due("the first gets the soonest", 11, desk.arrival(0));
        Check.due("then the second", 12, desk.arrival(1));
        Check.due("then the third", 13, desk.arrival(2));
        Check.due("then the fourth", 14, desk.arrival(3));
        Check.journey("parcel 0", desk, 0, 8, 1, 1, 0, 2);
    }

    private static void promise8BookedFromItsSource() {
        Check.about("Promise 8", "one that is booked from its source at AT (that is its journey)");
        Desk desk = Desk.of(1, 1, 0);
        desk.contact(0, 1, 6, 64);
        desk.contact(1, 2, 6, 64);
        desk.contact(0, 2, 6, 8);
        desk.book(0, 2, 6);
        Check.journey("parcel 0", desk, 0, 6, 0, 2);
        desk.tickTo(5);
        Check.due("NOW is AT - 1", BOOKED, desk.state(0));
        Check.due("none is lost", 0, desk.cut(0, 2));
        Check.journey("parcel 0", desk, 0, 6, 0, 1, 2);
        Check.due("booked still", BOOKED, desk.state(0));
        Check.due("nowhere yet", NONE, desk.where(0));
    }

    private static void promise8TravellingFromNow() {
        Check.about("Promise 8",
            "one that is travelling from the node for NOW at tick NOW (its journey goes on with that)");
        Desk desk = Desk.of(1, 1, 0);
        desk.contact(0, 1, 6, 64);
        desk.contact(1, 2, 6, 64);
        desk.contact(0, 2, 6, 8);
        desk.book(0, 2, 6);
        desk.tickTo(6);
        Check.due("NOW is AT", 0, desk.cut(0, 2));
        Check.journey("parcel 0", desk, 0, 6, 0, 1, 2);
        desk.tick();
        Check.due("where it is", 1, desk.where(0));
        Check.due("it needs the other pair", 1, desk.cut(1, 2));
        Check.journey("parcel 0", desk, 0, 6, 0, 1);
        Desk later = Desk.of(1, 1, 0, 1);
        later.contact(3, 1, 4, 5);
        later.contact(1, 2, 7, 8);
        later.contact(1, 0, 7, 8);
        later.contact(0, 2, 63, 64);
        later.book(3, 2, 3);
        later.tickTo(7);
        Check.due("none is lost", 0, later.cut(1, 2));
        Check.due("its last tick is 64", 64, later.arrival(0));
        Check.due("what it was before stays", 3, later.step(0, 3));
        Check.due("where it is stays", 1, later.step(0, 7));
        Check.due("it goes on from there", 0, later.step(0, 8));
        Check.due("to its goal", 2, later.step(0, 64));
        Check.due("what it used stays used", 1, later.stored(3, 3));
    }

    private static void promise8Lost() {
        Check.about("Promise 8", "One for which there is none is lost. Answers how many were lost");
        Desk desk = Desk.of(1, 0, 0);
        Check.due("no parcels", 0, desk.cut(0, 1));
        desk.contact(0, 1, 3, 5);
        Check.due("open, but no parcels", 0, desk.cut(0, 1));
        desk.contact(0, 1, 3, 5);
        desk.contact(0, 2, 3, 4);
        desk.contact(2, 1, 4, 5);
        desk.book(0, 1, 3);
        desk.book(0, 1, 4);
        Check.due("one of two", 1, desk.cut(0, 1));
        Check.due("the one by another way", BOOKED, desk.state(0));
        Check.due("the one for which there is none", LOST, desk.state(1));
        Desk all = fullTick(20);
        int lost = 0;
        for (int a = 0; a < 4; a++) {
            for (int b = 4; b < 8; b++) {
                lost += all.cut(a, b);
            }
        }
        Check.due("all that there can be", 32, lost);
        Check.due("the first of all", LOST, all.state(0));
        Check.due("the last of all", LOST, all.state(31));
        Desk once = Desk.of(0, 0);
        once.contact(0, 1, 0, 64);
        for (int h = 0; h < 32; h++) {
            once.book(h % 2, 1 - h % 2, h);
        }
        Check.due("32 by one cut", 32, once.cut(0, 1));
        Check.due("the 32nd of them", LOST, once.state(31));
    }

    private static void promise8Wrong() {
        Check.about("Promise 8", "IllegalArgumentException: a or b is no node, or they are the same");
        Desk desk = Desk.of(0, 0);
        desk.contact(0, 1, 0, 64);
        desk.book(0, 1, 9);
        for (int n : NO_NODES) {
            Check.throwing("a " + n, IAE, () -> desk.cut(n, 1));
            Check.throwing("b " + n, IAE, () -> desk.cut(0, n));
        }
        Check.throwing("0 and 0", IAE, () -> desk.cut(0, 0));
        Check.throwing("1 and 1", IAE, () -> desk.cut(1, 1));
        Check.throwing("no node twice", IAE, () -> desk.cut(2, 2));
        Check.due("still open", true, desk.open(0, 1, 9));
        Check.due("still booked", BOOKED, desk.state(0));
    }

    private static void promise9OneMore() {
        Check.about("Promise 9", "NOW becomes one more");
        Desk desk = new Desk();
        for (int t = 1; t <= 64; t++) {
            Check.due("none arrives", 0, desk.tick());
            Check.due("NOW", t, desk.now());
        }
    }

    private static void promise9Arrivals() {
        Check.about("Promise 9", "Answers how many parcels arrived by that");
        Desk all = fullTick(63);
        all.tickTo(62);
        Check.due("none by 63", 0, all.tick());
        Check.due("all that there can be by 64", 32, all.tick());
        Desk desk = Desk.of(0, 0);
        desk.contact(0, 1, 0, 9);
        desk.book(0, 1, 0);
        desk.book(0, 1, 2);
        desk.book(1, 0, 2);
        desk.book(0, 1, 3);
        desk.cancel(2);
        Check.due("one by 1", 1, desk.tick());
        Check.due("none by 2", 0, desk.tick());
        Check.due("one by 3, the cancelled one not", 1, desk.tick());
        desk.cut(0, 1);
        Check.due("none by 4, for it is lost", 0, desk.tick());
        Check.due("nor later", 0, desk.tick());
        Desk stopped = Desk.of(1, 0);
        stopped.contact(0, 1, 6, 7);
        stopped.book(0, 1, 3);
        stopped.tickTo(4);
        stopped.cancel(0);
        Check.due("one that was cut off in this tick does not arrive", 0, stopped.tick());
        Check.due("nor when it would have", 0, stopped.tick() + stopped.tick());
        Check.due("it is cancelled", CANCELLED, stopped.state(0));
    }

    private static void promise9AtTheEnd() {
        Check.about("Promise 9", "IllegalStateException: NOW is 64");
        Desk desk = Desk.of(0, 0);
        desk.contact(0, 1, 63, 64);
        desk.book(0, 1, 63);
        desk.tickTo(63);
        Check.due("from 63 to 64", 1, desk.tick());
        Check.throwing("from 64", ISE, desk::tick);
        Check.throwing("from 64 again", ISE, desk::tick);
        Check.due("NOW stays", 64, desk.now());
        Check.due("what has arrived stays so", ARRIVED, desk.state(0));
    }
}
