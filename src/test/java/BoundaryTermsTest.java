/** Each sentence of the document's head and of its Terms that names a boundary has a test of its own here. */
public final class BoundaryTermsTest {
    private static final int NONE = RelayPassages.NONE;
    private static final int BOOKED = RelayPassages.BOOKED;
    private static final int TRAVELLING = RelayPassages.TRAVELLING;
    private static final int ARRIVED = RelayPassages.ARRIVED;
    private static final int CANCELLED = RelayPassages.CANCELLED;
    private static final int LOST = RelayPassages.LOST;
    private static final Class<IllegalArgumentException> IAE = IllegalArgumentException.class;
    private static final Class<IllegalStateException> ISE = IllegalStateException.class;

    public static void main(String[] args) {
        lastCall();
        ticks();
        nowAtFirstAndAtMost();
        nodesAndPlaces();
        pairInEitherOrder();
        pairOfDifferentNodes();
        contactsOpenAndCutsClose();
        handlesInOrder();
        handlesAtMost();
        handleNotGivenTwice();
        journeyOfOneNodeForEachTick();
        journeyOfNoneAtAll();
        lastTickUsesNothing();
        waitingUsesAPlace();
        goingUsesALink();
        placesFree();
        noPlaceFree();
        linkFreeWhenOpen();
        linkFreeWhenUnused();
        wayEndsAtMost();
        wayStartsAndEnds();
        wayByTheFirstAndTheLastNode();
        wayComesToGoalOnce();
        wayOfFreeThings();
        bestHasLeastEnd();
        bestHasLesserNode();
        bookedAndTravelling();
        arrived();
        cutOffEndsWithNow();
        cutOffLeavesNone();
        Check.end();
    }

    private static void lastCall() {
        Check.about("What it is", "An object is used for at most 512 calls after it has been made");
        Desk desk = Desk.of(1, 0);
        desk.contact(0, 1, 5, 64);
        while (desk.callsLeft() > 3) {
            Check.due("a call among the 512", 7, desk.whatIf(1, 0, 6));
        }
        Check.due("the 510th call", 0, desk.book(0, 1, 4));
        Check.due("the 511th call", 0, desk.tick());
        Check.due("the 512th call", 6, desk.arrival(0));
        Desk refused = new Desk();
        while (refused.callsLeft() > 3) {
            Check.throwing("a refused call among the 512", IAE, () -> refused.node(8, 0));
        }
        Check.due("after 509 refused calls", 1, refused.node(0, 0));
        Check.due("after 510 calls", 2, refused.node(1, 0));
        Check.due("the 512th call behind them", 1, refused.contact(0, 1, 0, 64));
    }

    private static void ticks() {
        Check.about("Terms", "TICKS are 0 .. 63");
        Desk desk = Desk.of(1, 1);
        desk.contact(0, 1, 0, 64);
        desk.book(0, 1, 0);
        desk.book(0, 1, 63);
        int[] around = {-1, 0, 63, 64};
        int[] used = {0, 1, 1, 0};
        int[] free = {NONE, 1, 1, NONE};
        for (int i = 0; i < around.length; i++) {
            int t = around[i];
            Check.due("used in " + t, used[i], desk.linkUsed(0, 1, t));
            Check.due("open in " + t, used[i] == 1, desk.open(0, 1, t));
            Check.due("free in " + t, free[i], desk.free(0, t));
            Check.due("stored in " + t, 0, desk.stored(0, t));
        }
        Desk waiting = Desk.of(1, 1);
        waiting.contact(0, 1, 63, 64);
        waiting.book(0, 1, 0);
        Check.due("stored before the first tick", 0, waiting.stored(0, -1));
        Check.due("stored in the first tick", 1, waiting.stored(0, 0));
        Check.due("stored in the last tick for waiting", 1, waiting.stored(0, 62));
        Check.due("gone in the last tick", 0, waiting.stored(0, 63));
        Check.due("no waiting at the goal in 64", 0, waiting.stored(1, 64));
    }

    private static void nowAtFirstAndAtMost() {
        Check.about("Terms", "NOW is 0 at first and 64 at most");
        Desk desk = new Desk();
        Check.due("at first", 0, desk.now());
        desk.tickTo(63);
        Check.due("nearly", 63, desk.now());
        desk.tick();
        Check.due("at most", 64, desk.now());
        Check.throwing("no further tick", ISE, desk::tick);
        Check.due("still at most", 64, desk.now());
    }

    private static void nodesAndPlaces() {
        Check.about("Terms", "NODES 0 .. 7 are made with 0 .. 4 PLACES each");
        Desk desk = new Desk();
        for (int n = 0; n < 8; n++) {
            Check.due("node " + n, n + 1, desk.node(n, n % 5));
            Check.due("its places in the first tick", n % 5, desk.free(n, 0));
            Check.due("its places in the last tick", n % 5, desk.free(n, 63));
        }
        Check.throwing("below the nodes", IAE, () -> desk.node(-1, 0));
        Check.throwing("above the nodes", IAE, () -> desk.node(8, 0));
        Desk other = new Desk();
        Check.throwing("below the places", IAE, () -> other.node(0, -1));
        Check.throwing("above the places", IAE, () -> other.node(0, 5));
        Check.due("no node by that", NONE, other.free(0, 0));
    }

    private static void pairInEitherOrder() {
        Check.about("Terms", "A PAIR is two different nodes (in either order)");
        Desk desk = Desk.of(0, 0, 0, 0, 0, 0, 0, 0);
        desk.contact(7, 0, 3, 4);
        Check.due("open", true, desk.open(7, 0, 3));
        Check.due("open in the other order", true, desk.open(0, 7, 3));
        Check.throwing("open already, in the other order", ISE, () -> desk.contact(0, 7, 3, 4));
        Check.due("a link of it", 0, desk.book(7, 0, 3));
        Check.due("the other link of it", 1, desk.book(0, 7, 3));
        Check.due("cut in the other order", 2, desk.cut(0, 7));
        Check.due("closed", false, desk.open(7, 0, 3));
        Check.due("closed in the other order", false, desk.open(0, 7, 3));
    }

    private static void pairOfDifferentNodes() {
        Check.about("Terms", "A PAIR is two different nodes");
        Desk desk = Desk.of(4, 4);
        desk.contact(0, 1, 5, 64);
        desk.book(0, 1, 3);
        desk.book(1, 0, 3);
        for (int n : new int[] {0, 1}) {
            Check.throwing("no contact of one node", IAE, () -> desk.contact(n, n, 3, 4));
            Check.throwing("no parcel to its own source", IAE, () -> desk.book(n, n, 3));
            Check.throwing("no whatIf to its own source", IAE, () -> desk.whatIf(n, n, 3));
            Check.throwing("no cut of one node", IAE, () -> desk.cut(n, n));
            Check.due("not open to itself", false, desk.open(n, n, 5));
            Check.due("waiting uses a place", 1, desk.stored(n, 3));
            Check.due("and no link to itself", 0, desk.linkUsed(n, n, 3));
        }
    }

    private static void contactsOpenAndCutsClose() {
        Check.about("Terms", "CONTACTS make a pair OPEN in ticks; cuts close it again");
        Desk desk = Desk.of(0, 0);
        Check.due("closed at first", false, desk.open(0, 1, 0));
        desk.contact(0, 1, 0, 64);
        Check.due("open in the first tick", true, desk.open(0, 1, 0));
        Check.due("open in the last tick", true, desk.open(0, 1, 63));
        desk.cut(0, 1);
        Check.due("closed again in the first tick", false, desk.open(0, 1, 0));
        Check.due("closed again in the last tick", false, desk.open(0, 1, 63));
        Check.due("a contact over what was cut", 2, desk.contact(0, 1, 63, 64));
        Check.due("open once more", true, desk.open(0, 1, 63));
        Check.due("only there", false, desk.open(0, 1, 62));
    }

    private static void handlesInOrder() {
        Check.about("Terms", "PARCELS have HANDLES 0, 1, .. in the order in which they were booked");
        Desk desk = Desk.of(0, 0);
        desk.contact(0, 1, 0, 64);
        Check.due("the latest tick first", 0, desk.book(0, 1, 63));
        Check.due("then the earliest", 1, desk.book(0, 1, 0));
        Check.due("NONE takes no handle", NONE, desk.book(0, 1, 63));
        Check.throwing("a throw takes no handle", IAE, () -> desk.book(0, 1, 64));
        Check.due("then one between", 2, desk.book(0, 1, 30));
        Check.due("the first one's tick", 64, desk.arrival(0));
        Check.due("the second one's tick", 1, desk.arrival(1));
        Check.due("the third one's tick", 31, desk.arrival(2));
    }

    private static void handlesAtMost() {
        Check.about("Terms", "HANDLES 0, 1, .. at most 32");
        Desk desk = Desk.of(0, 0);
        desk.contact(0, 1, 0, 64);
        for (int h = 0; h < 32; h++) {
            Check.due("handle", h, desk.book(0, 1, 2 * h));
        }
        Check.throwing("a 33rd", ISE, () -> desk.book(0, 1, 63));
        Check.due("the last one is there", BOOKED, desk.state(31));
        Check.due("its arrival", 63, desk.arrival(31));
        Check.due("there is none behind it", 0, desk.state(32));
    }

    private static void handleNotGivenTwice() {
        Check.about("Terms", "none is given twice");
        Desk desk = Desk.of(0, 0);
        desk.contact(0, 1, 0, 64);
        desk.book(0, 1, 0);
        desk.tick();
        desk.book(0, 1, 5);
        desk.cancel(1);
        desk.book(0, 1, 6);
        desk.cut(0, 1);
        desk.contact(0, 1, 1, 64);
        for (int h = 3; h < 32; h++) {
            Check.due("a new handle", h, desk.book(0, 1, h));
        }
        Check.throwing("those of ended parcels are given as well", ISE, () -> desk.book(0, 1, 40));
        Check.due("the arrived one", ARRIVED, desk.state(0));
        Check.due("the cancelled one", CANCELLED, desk.state(1));
        Check.due("the lost one", LOST, desk.state(2));
    }

    private static void journeyOfOneNodeForEachTick() {
        Check.about("Terms", "a JOURNEY: a row of nodes, one for each tick from its first tick to its last one");
        Desk desk = Desk.of(1, 0);
        desk.contact(0, 1, 63, 64);
        desk.book(0, 1, 0);
        Check.due("before the longest one", NONE, desk.step(0, -1));
        for (int t = 0; t < 64; t++) {
            Check.due("the longest one, tick " + t, 0, desk.step(0, t));
        }
        Check.due("its last tick", 1, desk.step(0, 64));
        Check.due("behind it", NONE, desk.step(0, 65));
        desk.book(1, 0, 63);
        Check.journey("parcel 1", desk, 1, 63, 1, 0);
        Desk first = Desk.of(0, 0);
        first.contact(0, 1, 0, 1);
        first.book(1, 0, 0);
        Check.journey("parcel 0", first, 0, 0, 1, 0);
    }

    private static void journeyOfNoneAtAll() {
        Check.about("Terms", "or none at all");
        Desk desk = Desk.of(1, 0);
        desk.contact(0, 1, 63, 64);
        desk.book(0, 1, 1);
        desk.cancel(0);
        for (int t = -1; t <= 65; t++) {
            Check.due("tick " + t, NONE, desk.step(0, t));
        }
        Check.due("a parcel all the same", CANCELLED, desk.state(0));
        Check.due("it uses no place", 1, desk.free(0, 1));
        Check.due("it uses no link", 0, desk.linkUsed(0, 1, 63));
    }

    private static void lastTickUsesNothing() {
        Check.about("Terms", "For each tick t of it but the last one the journey USES something in t");
        Desk desk = Desk.of(1, 0, 0);
        desk.contact(0, 1, 5, 8);
        desk.contact(2, 1, 5, 8);
        desk.book(0, 1, 4);
        Check.due("the goal has no places and needs none", 6, desk.arrival(0));
        Check.due("another one comes there in the same tick", 1, desk.book(2, 1, 5));
        Check.due("in the same tick", 6, desk.arrival(1));
        Check.due("no use of the first tick's eve", 0, desk.stored(0, 3));
        Check.due("the first tick", 1, desk.stored(0, 4));
        Check.due("the tick before the last one", 1, desk.linkUsed(0, 1, 5));
        Check.due("the last tick uses no place", 0, desk.stored(1, 6));
        Check.due("nor a link", 0, desk.linkUsed(1, 0, 6) + desk.linkUsed(0, 1, 6) + desk.linkUsed(1, 2, 6));
    }

    private static void waitingUsesAPlace() {
        Check.about("Terms", "a place of the node for t, if the node for t + 1 is the same");
        Desk desk = Desk.of(1, 1);
        desk.contact(0, 1, 4, 64);
        desk.book(0, 1, 3);
        Check.due("waits in 3", 1, desk.stored(0, 3));
        Check.due("goes in 4", 0, desk.stored(0, 4));
        Check.due("no place elsewhere", 0, desk.stored(1, 3));
        Check.due("no link while it waits", 0, desk.linkUsed(0, 1, 3));
    }

    private static void goingUsesALink() {
        Check.about("Terms", "otherwise the LINK from the node for t to that for t + 1");
        Desk desk = Desk.of(0, 0, 0);
        desk.contact(0, 1, 4, 5);
        desk.contact(1, 2, 5, 6);
        desk.book(0, 2, 4);
        Check.due("the first link", 1, desk.linkUsed(0, 1, 4));
        Check.due("not the one back", 0, desk.linkUsed(1, 0, 4));
        Check.due("the second link", 1, desk.linkUsed(1, 2, 5));
        Check.due("not a tick early", 0, desk.linkUsed(1, 2, 4));
        Check.due("not a tick late", 0, desk.linkUsed(0, 1, 5));
        Check.due("no places", 0, desk.stored(0, 4) + desk.stored(1, 5) + desk.stored(2, 6));
    }

    private static void placesFree() {
        Check.about("Terms", "a place of a node is FREE when the journeys of fewer parcels than it has places use one");
        for (int places = 1; places <= 4; places++) {
            Desk desk = Desk.of(places, 0);
            desk.contact(0, 1, 5, 64);
            for (int h = 0; h < places; h++) {
                Check.due("free before it", places - h, desk.free(0, 4));
                Check.due("a place for it", h, desk.book(0, 1, 4));
            }
            Check.due("none is free", 0, desk.free(0, 4));
            Check.due("all are used", places, desk.stored(0, 4));
            Check.due("one too many for " + places, NONE, desk.book(0, 1, 4));
            desk.cancel(0);
            Check.due("one is free again", places, desk.book(0, 1, 4));
        }
    }

    private static void noPlaceFree() {
        Check.about("Terms", "NODES are made with 0 PLACES: none is free");
        Desk desk = Desk.of(0, 0);
        desk.contact(0, 1, 5, 6);
        Check.due("no waiting", NONE, desk.book(0, 1, 4));
        Check.due("no need to wait", 0, desk.book(0, 1, 5));
        Check.due("none free", 0, desk.free(0, 4));
        Check.due("none used", 0, desk.stored(0, 4));
    }

    private static void linkFreeWhenOpen() {
        Check.about("Terms", "a link is free when its pair is open");
        Desk desk = Desk.of(0, 0);
        desk.contact(0, 1, 5, 7);
        Check.due("before it is open", NONE, desk.whatIf(0, 1, 4));
        Check.due("in its first open tick", 6, desk.whatIf(0, 1, 5));
        Check.due("in its last open tick", 7, desk.whatIf(0, 1, 6));
        Check.due("after it was open", NONE, desk.whatIf(0, 1, 7));
        desk.cut(0, 1);
        Check.due("when it was cut", NONE, desk.whatIf(0, 1, 5));
    }

    private static void linkFreeWhenUnused() {
        Check.about("Terms", "and the journey of no parcel uses it");
        Desk desk = Desk.of(0, 0);
        desk.contact(0, 1, 5, 7);
        desk.book(0, 1, 5);
        Check.due("used", NONE, desk.book(0, 1, 5));
        Check.due("the next tick of it", 1, desk.book(0, 1, 6));
        Check.due("the link the other way", 2, desk.book(1, 0, 5));
        Check.due("that is used too, then", NONE, desk.book(1, 0, 5));
        desk.cancel(0);
        Check.due("the cancelled one uses it no more", 3, desk.book(0, 1, 5));
    }

    private static void wayEndsAtMost() {
        Check.about("Terms", "e being at most 64");
        Desk desk = Desk.of(1, 0, 0);
        desk.contact(0, 1, 63, 64);
        desk.contact(1, 2, 63, 64);
        Check.due("an end of 64", 64, desk.whatIf(0, 1, 0));
        Check.due("an end of 64 from 63", 64, desk.whatIf(0, 1, 63));
        Check.due("an end of 65 there is not", NONE, desk.whatIf(0, 2, 63));
        Check.due("booked", 0, desk.book(0, 1, 63));
        Check.due("its last tick", 64, desk.arrival(0));
        Check.due("its node for 64", 1, desk.step(0, 64));
        Check.due("the link is used, and 64 is no tick for another", NONE, desk.book(0, 1, 63));
    }

    private static void wayStartsAndEnds() {
        Check.about("Terms", "the first one s, the last one d");
        Desk desk = Desk.of(0, 0, 0, 0, 0, 0, 0, 0);
        desk.contact(7, 0, 9, 10);
        desk.contact(6, 7, 8, 9);
        desk.book(7, 0, 9);
        Check.journey("parcel 0", desk, 0, 9, 7, 0);
        desk.book(6, 7, 8);
        Check.journey("parcel 1", desk, 1, 8, 6, 7);
        desk.book(0, 7, 9);
        Check.journey("parcel 2", desk, 2, 9, 0, 7);
    }

    private static void wayByTheFirstAndTheLastNode() {
        Check.about("Terms", "A WAY is a row of nodes: NODES 0 .. 7");
        Desk desk = Desk.of(0, 0, 0, 0, 0, 0, 0, 0);
        desk.contact(3, 5, 5, 6);
        desk.contact(5, 7, 6, 7);
        desk.contact(7, 2, 7, 8);
        desk.contact(2, 0, 8, 9);
        desk.contact(0, 4, 9, 10);
        desk.book(3, 4, 5);
        Check.journey("by 7 and 0", desk, 0, 5, 3, 5, 7, 2, 0, 4);
    }

    private static void wayComesToGoalOnce() {
        Check.about("Terms", "none between being d");
        Desk desk = Desk.of(1, 4, 1);
        desk.contact(0, 1, 3, 64);
        desk.contact(1, 2, 0, 64);
        desk.contact(0, 2, 0, 64);
        desk.book(2, 1, 0);
        Check.journey("parcel 0", desk, 0, 0, 2, 1);
        desk.book(0, 1, 0);
        Check.due("the goal is met once, at its end", 2, desk.arrival(1));
        Check.journey("parcel 1", desk, 1, 0, 0, 2, 1);
    }

    private static void wayOfFreeThings() {
        Check.about("Terms", "in which all that it would use is free");
        Desk desk = Desk.of(0, 1, 0, 0);
        desk.contact(0, 1, 2, 3);
        desk.contact(1, 2, 4, 6);
        desk.contact(3, 1, 2, 3);
        Check.due("link, place and link", 0, desk.book(0, 2, 2));
        Check.due("the place between is used in 3", NONE, desk.book(3, 2, 2));
        desk.cancel(0);
        Check.due("it is free again", 1, desk.book(3, 2, 2));
        Check.due("a way that is all free but for its last link", 1, desk.linkUsed(1, 2, 4));
        Check.due("waits for the next one", 6, desk.whatIf(1, 2, 4));
    }

    private static void bestHasLeastEnd() {
        Check.about("Terms", "The BEST of some ways is the one with the least e");
        Desk desk = Desk.of(4, 4, 0, 4);
        desk.contact(3, 0, 0, 64);
        desk.contact(3, 1, 0, 64);
        desk.contact(0, 2, 9, 64);
        desk.contact(1, 2, 8, 9);
        desk.book(3, 2, 7);
        Check.journey("parcel 0", desk, 0, 7, 3, 1, 2);
        desk.book(3, 2, 7);
        Check.due("a tick later by the lesser node", 10, desk.arrival(1));
        Check.journey("parcel 1", desk, 1, 7, 3, 0, 0, 2);
    }

    private static void bestHasLesserNode() {
        Check.about("Terms", "and of several such ones that with the lesser node at the first tick where they differ");
        Desk desk = Desk.of(0, 0, 0, 0, 0, 0, 0, 0);
        desk.contact(7, 1, 5, 6);
        desk.contact(7, 2, 5, 6);
        desk.contact(1, 6, 6, 7);
        desk.contact(2, 0, 6, 7);
        desk.contact(6, 4, 7, 8);
        desk.contact(0, 4, 7, 8);
        desk.book(7, 4, 5);
        Check.journey("parcel 0", desk, 0, 5, 7, 1, 6, 4);
        desk.book(7, 4, 5);
        Check.journey("parcel 1", desk, 1, 5, 7, 2, 0, 4);
        Desk late = Desk.of(0, 0, 1, 0);
        late.contact(2, 3, 5, 64);
        late.contact(2, 0, 7, 8);
        late.contact(3, 1, 8, 9);
        late.contact(0, 1, 8, 9);
        late.book(2, 1, 5);
        Check.journey("parcel 0", late, 0, 5, 2, 2, 2, 0, 1);
        late.book(2, 1, 7);
        Check.journey("parcel 1", late, 1, 7, 2, 3, 1);
    }

    private static void bookedAndTravelling() {
        Check.about("Terms", "A parcel is BOOKED (1) while NOW is less than AT, and TRAVELLING (2) from then on");
        Desk desk = Desk.of(0, 0);
        desk.contact(0, 1, 0, 64);
        desk.book(0, 1, 0);
        Check.due("AT is NOW", TRAVELLING, desk.state(0));
        desk.book(0, 1, 1);
        Check.due("AT is NOW + 1", BOOKED, desk.state(1));
        desk.book(0, 1, 63);
        desk.tick();
        Check.due("NOW has come to AT", TRAVELLING, desk.state(1));
        desk.tickTo(62);
        Check.due("NOW is 62", BOOKED, desk.state(2));
        desk.tick();
        Check.due("NOW is 63", TRAVELLING, desk.state(2));
    }

    private static void arrived() {
        Check.about("Terms", "when NOW comes to the last tick of its journey, it has ARRIVED (3)");
        Desk desk = Desk.of(1, 0);
        desk.contact(0, 1, 3, 64);
        desk.book(0, 1, 2);
        desk.book(0, 1, 63);
        desk.tickTo(3);
        Check.due("the tick before its last one", TRAVELLING, desk.state(0));
        desk.tick();
        Check.due("its last tick", ARRIVED, desk.state(0));
        desk.tickTo(63);
        Check.due("long after", ARRIVED, desk.state(0));
        Check.due("63 is not yet 64", TRAVELLING, desk.state(1));
        desk.tick();
        Check.due("its last tick is 64", ARRIVED, desk.state(1));
    }

    /** Parcels from 0 to 1 whose first ticks lie around NOW, which is 5; the last one ends with NOW + 1. */
    private static Desk aroundNow() {
        Desk desk = Desk.of(4, 0, 1);
        desk.contact(0, 1, 10, 64);
        desk.contact(1, 2, 5, 6);
        for (int at = 3; at <= 6; at++) {
            desk.book(0, 1, at);
        }
        desk.book(2, 1, 4);
        desk.tickTo(5);
        return desk;
    }

    private static void cutOffEndsWithNow() {
        Check.about("Terms", "its journey is CUT OFF: it ends with the node for the tick NOW");
        Desk cancelled = aroundNow();
        for (int h = 0; h <= 4; h++) {
            cancelled.cancel(h);
        }
        Desk lost = aroundNow();
        Check.due("four lost", 4, lost.cut(0, 1));
        Check.due("and one more", 1, lost.cut(2, 1));
        for (Desk desk : new Desk[] {cancelled, lost}) {
            Check.journey("parcel 0", desk, 0, 3, 0, 0, 0);
            Check.journey("parcel 1", desk, 1, 4, 0, 0);
            Check.journey("parcel 2", desk, 2, 5, 0);
            Check.journey("parcel 4", desk, 4, 4, 2, 2);
            Check.due("what was used stays so", 2, desk.stored(0, 4));
            Check.due("NOW is not used", 0, desk.stored(0, 5));
            Check.due("nor is its link", 0, desk.linkUsed(2, 1, 5));
            Check.due("nor are later links", 0, desk.linkUsed(0, 1, 10));
        }
    }

    private static void cutOffLeavesNone() {
        Check.about("Terms", "or, if its first tick is greater than NOW, there is none any more");
        Desk cancelled = aroundNow();
        cancelled.cancel(3);
        Desk lost = aroundNow();
        lost.cut(0, 1);
        for (Desk desk : new Desk[] {cancelled, lost}) {
            for (int t = 4; t <= 64; t++) {
                Check.due("first tick NOW + 1, tick " + t, NONE, desk.step(3, t));
            }
        }
    }
}
