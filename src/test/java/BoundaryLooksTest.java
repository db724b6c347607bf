/** Each sentence of the promises 10 to 17 that names a boundary has a test of its own here. */
public final class BoundaryLooksTest {
    private static final int NONE = RelayPassages.NONE;
    private static final int BOOKED = RelayPassages.BOOKED;
    private static final int TRAVELLING = RelayPassages.TRAVELLING;
    private static final int ARRIVED = RelayPassages.ARRIVED;
    private static final int CANCELLED = RelayPassages.CANCELLED;
    private static final int LOST = RelayPassages.LOST;
    private static final int LEAST = Integer.MIN_VALUE;
    private static final int MOST = Integer.MAX_VALUE;

    // The desks below have the handles 0 .. 4 and the nodes 0, 1 and 2; some of these would be one of them when a
    // shift, a cast or a product wraps around.
    private static final int[] NO_HANDLES = {-1, 5, 31, 32, 33, 64, 256, 257, 1 << 16, LEAST, LEAST + 1, MOST, -32};
    private static final int[] NO_NODES = {-1, 3, 7, 8, 9, 16, 32, 33, 64, 65, 256, 257, 1 << 16, LEAST, LEAST + 1,
        MOST, -8, -32, -31};
    private static final int[] NO_TICKS = {-1, 64, 65, -64, 128, 256, 1 << 28, 1 << 29, 1 << 30, LEAST, LEAST + 3,
        MOST};

    public static void main(String[] args) {
        promise10States();
        promise10None();
        promise11NodeForNow();
        promise11AllOthers();
        promise11NoParcel();
        promise12LastTick();
        promise12AllOthers();
        promise12NoParcel();
        promise13NodeForTick();
        promise13NoParcel();
        promise13NoTickInJourney();
        promise13LastTickOfAll();
        promise14Journeys();
        promise14NoTwoNodes();
        promise14NoTick();
        promise15Journeys();
        promise15NoNode();
        promise15NoTick();
        promise16Open();
        promise16NoTwoNodes();
        promise16NoTick();
        promise17Places();
        promise17NoNode();
        promise17NoTick();
        neighbouringTicks();
        Check.end();
    }

    /** NOW is 5, and the parcels 0 .. 4 are in the states 1 .. 5; number 3 was cancelled and 4 lost on the way. */
    private static Desk everyState() {
        Desk desk = Desk.of(4, 2, 0);
        desk.contact(0, 1, 2, 64);
        desk.contact(1, 2, 5, 9);
        desk.book(0, 1, 6);
        desk.book(1, 0, 5);
        desk.book(0, 1, 3);
        desk.book(0, 1, 4);
        desk.book(1, 2, 4);
        desk.tickTo(4);
        desk.cancel(3);
        desk.tick();
        desk.cut(1, 2);
        return desk;
    }

    private static void promise10States() {
        Check.about("Promise 10", "The state of a parcel, BOOKED .. LOST");
        Desk desk = everyState();
        int[] due = {BOOKED, TRAVELLING, ARRIVED, CANCELLED, LOST};
        for (int h = 0; h < due.length; h++) {
            Check.due("state of " + h, due[h], desk.state(h));
        }
        desk.tickTo(64);
        int[] atTheEnd = {ARRIVED, ARRIVED, ARRIVED, CANCELLED, LOST};
        for (int h = 0; h < due.length; h++) {
            Check.due("state of " + h + " at the end", atTheEnd[h], desk.state(h));
        }
        Desk full = Desk.of(0, 0);
        full.contact(0, 1, 0, 64);
        for (int h = 0; h < 32; h++) {
            full.book(0, 1, h);
        }
        Check.due("the last one that there can be", BOOKED, full.state(31));
    }

    private static void promise10None() {
        Check.about("Promise 10", "0 when there is none");
        Desk desk = everyState();
        for (int h : NO_HANDLES) {
            Check.due("handle " + h, 0, desk.state(h));
        }
        Check.due("the first one of an empty desk", 0, new Desk().state(0));
    }

    private static void promise11NodeForNow() {
        Check.about("Promise 11", "The node for NOW of a parcel that is travelling");
        Desk desk = Desk.of(0, 1, 0, 0, 0, 0, 0, 1);
        desk.contact(7, 1, 4, 5);
        desk.contact(1, 0, 6, 7);
        desk.book(7, 0, 3);
        int[] due = {NONE, NONE, NONE, 7, 7, 1, 1, NONE, NONE};
        for (int t = 0; t < due.length; t++) {
            desk.tickTo(t);
            Check.due("NOW is " + t, due[t], desk.where(0));
        }
        Desk last = Desk.of(0, 0);
        last.contact(0, 1, 63, 64);
        last.book(1, 0, 63);
        last.tickTo(63);
        Check.due("NOW is 63", 1, last.where(0));
        last.tick();
        Check.due("NOW is 64", NONE, last.where(0));
    }

    private static void promise11AllOthers() {
        Check.about("Promise 11", "NONE for all others");
        Desk desk = everyState();
        Check.due("booked", NONE, desk.where(0));
        Check.due("travelling", 1, desk.where(1));
        Check.due("arrived in this tick", NONE, desk.where(2));
        Check.due("cancelled", NONE, desk.where(3));
        Check.due("lost in this tick", NONE, desk.where(4));
        Check.due("though its journey has a node for NOW", 1, desk.step(4, 5));
    }

    private static void promise11NoParcel() {
        Check.about("Promise 11", "NONE for all others: there is no such parcel");
        Desk desk = everyState();
        for (int h : NO_HANDLES) {
            Check.due("handle " + h, NONE, desk.where(h));
        }
        Check.due("the first one of an empty desk", NONE, new Desk().where(0));
    }

    private static void promise12LastTick() {
        Check.about("Promise 12", "The last tick of the journey of a parcel that is booked, travelling or arrived");
        Desk desk = everyState();
        Check.due("booked", 7, desk.arrival(0));
        Check.due("travelling", 6, desk.arrival(1));
        Check.due("arrived", 4, desk.arrival(2));
        Desk ends = Desk.of(1, 0);
        ends.contact(0, 1, 0, 1);
        ends.contact(0, 1, 63, 64);
        ends.book(0, 1, 0);
        ends.book(0, 1, 0);
        Check.due("the least one", 1, ends.arrival(0));
        Check.due("the greatest one", 64, ends.arrival(1));
        ends.tickTo(64);
        Check.due("the least one at the end", 1, ends.arrival(0));
        Check.due("the greatest one at the end", 64, ends.arrival(1));
    }

    private static void promise12AllOthers() {
        Check.about("Promise 12", "NONE for all others");
        Desk desk = everyState();
        Check.due("cancelled", NONE, desk.arrival(3));
        Check.due("though its journey has a last tick", 0, desk.step(3, 4));
        Check.due("lost", NONE, desk.arrival(4));
        Check.due("though its journey has a last tick, too", 1, desk.step(4, 5));
    }

    private static void promise12NoParcel() {
        Check.about("Promise 12", "NONE for all others: there is no such parcel");
        Desk desk = everyState();
        for (int h : NO_HANDLES) {
            Check.due("handle " + h, NONE, desk.arrival(h));
        }
        Check.due("the first one of an empty desk", NONE, new Desk().arrival(0));
    }

    private static void promise13NodeForTick() {
        Check.about("Promise 13", "The node for tick t of a parcel's journey");
        Desk desk = everyState();
        Check.due("first tick of a booked one", 0, desk.step(0, 6));
        Check.due("last tick of a booked one", 1, desk.step(0, 7));
        Check.due("first tick of one that travels", 1, desk.step(1, 5));
        Check.due("first tick of an arrived one", 0, desk.step(2, 3));
        Check.due("last tick of an arrived one", 1, desk.step(2, 4));
        Check.due("the one tick of a cancelled one", 0, desk.step(3, 4));
        Check.due("first tick of a lost one", 1, desk.step(4, 4));
        Check.due("last tick of a lost one", 1, desk.step(4, 5));
    }

    private static void promise13NoParcel() {
        Check.about("Promise 13", "NONE when there is no such parcel");
        Desk desk = everyState();
        for (int h : NO_HANDLES) {
            Check.due("handle " + h, NONE, desk.step(h, 5));
            Check.due("handle " + h + ", no tick", NONE, desk.step(h, -1));
            Check.due("handle " + h + ", tick 64", NONE, desk.step(h, 64));
        }
        Check.due("the first one of an empty desk", NONE, new Desk().step(0, 0));
    }

    private static void promise13NoTickInJourney() {
        Check.about("Promise 13", "or no such tick in its journey");
        Desk desk = everyState();
        int[][] firstAndLast = {{6, 7}, {5, 6}, {3, 4}, {4, 4}, {4, 5}};
        for (int h = 0; h < firstAndLast.length; h++) {
            Check.due("before the first of " + h, NONE, desk.step(h, firstAndLast[h][0] - 1));
            Check.due("after the last of " + h, NONE, desk.step(h, firstAndLast[h][1] + 1));
            for (int t : NO_TICKS) {
                Check.due("tick " + t + " of " + h, NONE, desk.step(h, t));
            }
        }
    }

    private static void promise13LastTickOfAll() {
        Check.about("Promise 13 and Terms", "no such tick in its journey; e being at most 64");
        Desk desk = Desk.of(1, 0);
        desk.contact(0, 1, 62, 64);
        desk.book(0, 1, 63);
        desk.book(0, 1, 62);
        desk.book(1, 0, 63);
        Check.due("64 is the last tick of this journey", 1, desk.step(0, 64));
        Check.due("and 65 is none of it", NONE, desk.step(0, 65));
        Check.due("63 is the last tick of this one", 1, desk.step(1, 63));
        Check.due("and 64 is none of it", NONE, desk.step(1, 64));
        desk.cancel(2);
        Check.due("64 is no tick of a journey that there is no more", NONE, desk.step(2, 64));
        desk.tickTo(64);
        Check.due("when NOW is 64", 1, desk.step(0, 64));
        Check.due("when NOW is 64, of the other one", NONE, desk.step(1, 64));
    }

    private static void promise14Journeys() {
        Check.about("Promise 14", "How many journeys use the link from a to b in tick t");
        Desk desk = Desk.of(0, 0, 0, 0, 0, 0, 0, 0);
        desk.contact(7, 0, 0, 1);
        desk.contact(0, 7, 63, 64);
        Check.due("none", 0, desk.linkUsed(7, 0, 0));
        desk.book(7, 0, 0);
        desk.book(0, 7, 63);
        Check.due("one in the first tick", 1, desk.linkUsed(7, 0, 0));
        Check.due("none the other way", 0, desk.linkUsed(0, 7, 0));
        Check.due("one in the last tick", 1, desk.linkUsed(0, 7, 63));
        Check.due("none the other way in the last tick", 0, desk.linkUsed(7, 0, 63));
        desk.cancel(1);
        Check.due("none when it was cancelled", 0, desk.linkUsed(0, 7, 63));
        desk.tickTo(1);
        desk.cut(0, 7);
        Check.due("the past stays", 1, desk.linkUsed(7, 0, 0));
    }

    private static void promise14NoTwoNodes() {
        Check.about("Promise 14", "0 when these are no two different nodes");
        Desk desk = everyState();
        Check.due("a link that is used", 1, desk.linkUsed(1, 0, 5));
        for (int n : NO_NODES) {
            Check.due("a " + n, 0, desk.linkUsed(n, 0, 5));
            Check.due("b " + n, 0, desk.linkUsed(1, n, 5));
            Check.due("both " + n, 0, desk.linkUsed(n, n, 5));
        }
        for (int n = 0; n < 3; n++) {
            Check.due("the same " + n, 0, desk.linkUsed(n, n, 4));
        }
    }

    private static void promise14NoTick() {
        Check.about("Promise 14", "or t is no tick");
        Desk desk = Desk.of(1, 0);
        desk.contact(0, 1, 0, 64);
        desk.book(0, 1, 0);
        desk.book(0, 1, 63);
        for (int t : NO_TICKS) {
            Check.due("t " + t, 0, desk.linkUsed(0, 1, t));
            Check.due("the other way, t " + t, 0, desk.linkUsed(1, 0, t));
        }
    }

    private static void promise15Journeys() {
        Check.about("Promise 15", "How many journeys use a place of node n in tick t");
        Desk desk = Desk.of(4, 0);
        desk.contact(0, 1, 60, 64);
        for (int used = 0; used < 4; used++) {
            Check.due("used by " + used, used, desk.stored(0, 0));
            desk.book(0, 1, 0);
        }
        Check.due("all in the first tick", 4, desk.stored(0, 0));
        Check.due("all in the last tick that all wait", 4, desk.stored(0, 59));
        Check.due("one has gone", 3, desk.stored(0, 60));
        Check.due("one is left", 1, desk.stored(0, 62));
        Check.due("none in the last tick of all", 0, desk.stored(0, 63));
        Check.due("none of the goal's", 0, desk.stored(1, 61));
        desk.tickTo(10);
        desk.cancel(0);
        Check.due("the past stays", 4, desk.stored(0, 9));
        Check.due("one less from NOW on", 3, desk.stored(0, 10));
    }

    private static void promise15NoNode() {
        Check.about("Promise 15", "0 when there is no such node");
        Desk desk = everyState();
        Check.due("a place that is used", 1, desk.stored(1, 4));
        for (int n : NO_NODES) {
            Check.due("n " + n, 0, desk.stored(n, 4));
        }
        Check.due("an empty desk", 0, new Desk().stored(0, 0));
    }

    private static void promise15NoTick() {
        Check.about("Promise 15", "0 when there is no such tick");
        Desk desk = Desk.of(1, 1);
        desk.contact(0, 1, 63, 64);
        desk.book(0, 1, 0);
        desk.book(1, 0, 0);
        for (int t : NO_TICKS) {
            Check.due("t " + t, 0, desk.stored(0, t));
            Check.due("of the other node, t " + t, 0, desk.stored(1, t));
        }
    }

    private static void promise16Open() {
        Check.about("Promise 16", "Whether the pair of a and b is open in tick t");
        Desk desk = Desk.of(0, 0, 0, 0, 0, 0, 0, 0);
        desk.contact(7, 0, 0, 1);
        desk.contact(7, 0, 63, 64);
        for (int t = 0; t < 64; t++) {
            Check.due("tick " + t, t == 0 || t == 63, desk.open(7, 0, t));
            Check.due("in the other order, tick " + t, t == 0 || t == 63, desk.open(0, 7, t));
        }
        Check.due("another pair", false, desk.open(7, 1, 0));
        desk.book(7, 0, 0);
        Check.due("open though it is used", true, desk.open(7, 0, 0));
        desk.tickTo(64);
        Check.due("open though it is past", true, desk.open(7, 0, 0));
    }

    private static void promise16NoTwoNodes() {
        Check.about("Promise 16", "false when these are no two different nodes");
        Desk desk = Desk.of(1, 1, 1);
        desk.contact(0, 1, 0, 64);
        desk.contact(1, 2, 0, 64);
        desk.contact(0, 2, 0, 64);
        for (int n : NO_NODES) {
            Check.due("a " + n, false, desk.open(n, 1, 5));
            Check.due("b " + n, false, desk.open(0, n, 5));
            Check.due("both " + n, false, desk.open(n, n, 5));
        }
        for (int n = 0; n < 3; n++) {
            Check.due("the same " + n, false, desk.open(n, n, 5));
        }
    }

    private static void promise16NoTick() {
        Check.about("Promise 16", "or t is no tick");
        Desk desk = Desk.of(1, 0);
        desk.contact(0, 1, 0, 64);
        for (int t : NO_TICKS) {
            Check.due("t " + t, false, desk.open(0, 1, t));
            Check.due("in the other order, t " + t, false, desk.open(1, 0, t));
        }
    }

    private static void promise17Places() {
        Check.about("Promise 17", "How many places of node n are free in tick t");
        Desk desk = Desk.of(4, 0);
        desk.contact(0, 1, 60, 64);
        Check.due("a node without places", 0, desk.free(1, 0));
        for (int used = 0; used < 4; used++) {
            Check.due("used by " + used, 4 - used, desk.free(0, 0));
            desk.book(0, 1, 0);
        }
        Check.due("none in the first tick", 0, desk.free(0, 0));
        Check.due("none in the last tick that all wait", 0, desk.free(0, 59));
        Check.due("one has gone", 1, desk.free(0, 60));
        Check.due("all in the last tick of all", 4, desk.free(0, 63));
        desk.tickTo(10);
        desk.cancel(0);
        Check.due("the past stays", 0, desk.free(0, 9));
        Check.due("one more from NOW on", 1, desk.free(0, 10));
    }

    private static void promise17NoNode() {
        Check.about("Promise 17", "NONE when there is no such node");
        Desk desk = everyState();
        for (int n : NO_NODES) {
            Check.due("n " + n, NONE, desk.free(n, 4));
        }
        Check.due("an empty desk", NONE, new Desk().free(0, 0));
    }

    private static void promise17NoTick() {
        Check.about("Promise 17", "NONE when there is no such tick");
        Desk desk = Desk.of(4, 0);
        for (int t : NO_TICKS) {
            Check.due("t " + t, NONE, desk.free(0, t));
            Check.due("of a node without places, t " + t, NONE, desk.free(1, t));
        }
    }

    /** The last node in one tick is not the first node in the next one. */
    private static void neighbouringTicks() {
        Check.about("Promises 14 to 17", "in tick t");
        Desk desk = Desk.of(1, 0, 0, 0, 0, 0, 0, 1);
        desk.contact(7, 1, 6, 7);
        desk.contact(0, 2, 9, 10);
        desk.book(7, 1, 5);
        Check.due("stored in 7", 1, desk.stored(7, 5));
        Check.due("not in 0 a tick later", 0, desk.stored(0, 6));
        Check.due("no place free in 7", 0, desk.free(7, 5));
        Check.due("one in 0 a tick later", 1, desk.free(0, 6));
        Check.due("link from 7", 1, desk.linkUsed(7, 1, 6));
        Check.due("not from 0 a tick later", 0, desk.linkUsed(0, 1, 7));
        Check.due("7 is open", true, desk.open(7, 1, 6));
        Check.due("0 is not, a tick later", false, desk.open(0, 1, 7));
        desk.book(0, 2, 8);
        Check.due("stored in 0", 1, desk.stored(0, 8));
        Check.due("not in 7 a tick sooner", 0, desk.stored(7, 7));
        Check.due("link from 0", 1, desk.linkUsed(0, 2, 9));
        Check.due("not from 7 a tick sooner", 0, desk.linkUsed(7, 2, 8));
        Check.due("0 is open", true, desk.open(0, 2, 9));
        Check.due("7 is not, a tick sooner", false, desk.open(7, 2, 8));
    }
}
