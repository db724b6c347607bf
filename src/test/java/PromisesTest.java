import java.util.NoSuchElementException;

/** Each promise of the document by hand: ordinary inputs, the edges it names, and wrong inputs. */
public final class PromisesTest {
    private static final int NONE = RelayPassages.NONE;
    private static final int LEAST = Integer.MIN_VALUE;
    private static final int MOST = Integer.MAX_VALUE;
    private static final Class<IllegalArgumentException> IAE = IllegalArgumentException.class;
    private static final Class<IllegalStateException> ISE = IllegalStateException.class;
    private static final Class<NoSuchElementException> NSEE = NoSuchElementException.class;

    public static void main(String[] args) {
        promise1NewObject();
        promise2Node();
        promise3Contact();
        promise3ContactLimit();
        promise3ContactAfterCut();
        promise4Now();
        promise5Book();
        promise5BestWay();
        promise5Places();
        promise5LastTick();
        promise5Wrong();
        promise5HandleLimit();
        promise6WhatIf();
        promise7Cancel();
        promise7CancelOnFirstTick();
        promise8CutBooked();
        promise8CutTravelling();
        promise8CutByRisingHandles();
        promise8CutOffFirst();
        promise8CutSparesOthers();
        promise8CutBothLinks();
        promise8CutUntouched();
        promise8CutInPresentTick();
        promise8CutWrong();
        promise9Tick();
        promise10State();
        promise11Where();
        promise12Arrival();
        promise13Step();
        promise14LinkUsed();
        promise15Stored();
        promise16Open();
        promise17Free();
        Check.end();
    }

    private static void noJourney(String what, Desk desk, int h) {
        for (int t = -1; t <= 65; t++) {
            Check.due(what + ": node for tick " + t, NONE, desk.step(h, t));
        }
    }

    private static void promise1NewObject() {
        Desk desk = new Desk();
        Check.due("1: NOW", 0, desk.now());
        for (int n = 0; n < 8; n++) {
            Check.due("1: no node", NONE, desk.free(n, 0));
        }
        Check.due("1: no parcel", 0, desk.state(0));
        Check.due("1: nothing open", false, desk.open(0, 1, 0));
        Check.due("1: nothing arrives", 0, desk.tick());
        Check.throwing("1: no nodes to meet", IAE, () -> desk.contact(0, 1, 1, 2));
        Check.due("1: a first node", 1, desk.node(0, 0));
        desk.node(1, 0);
        Check.due("1: a first contact", 1, desk.contact(0, 1, 1, 2));
        Check.due("1: a first handle", 0, desk.book(0, 1, 1));
        Check.due("1: another object has none of it", NONE, new Desk().free(0, 0));
    }

    private static void promise2Node() {
        Desk desk = new Desk();
        Check.due("2: first", 1, desk.node(7, 4));
        Check.due("2: second", 2, desk.node(0, 0));
        Check.due("2: places of 7", 4, desk.free(7, 0));
        Check.due("2: places of 0", 0, desk.free(0, 63));
        for (int n : new int[] {-1, 8, LEAST, MOST}) {
            Check.throwing("2: no such n " + n, IAE, () -> desk.node(n, 1));
        }
        for (int places : new int[] {-1, 5, LEAST, MOST}) {
            Check.throwing("2: no such places " + places, IAE, () -> desk.node(1, places));
        }
        Check.throwing("2: there is one", ISE, () -> desk.node(7, 1));
        Check.throwing("2: there is one, but the places come first", IAE, () -> desk.node(7, 5));
        Check.due("2: its places stay", 4, desk.free(7, 0));
        Check.due("2: what threw made none", NONE, desk.free(1, 0));
        desk.tick();
        Check.due("2: third, later", 3, desk.node(1, 1));
        desk.contact(0, 7, 3, 4);
        Check.throwing("2: a contact was made", ISE, () -> desk.node(2, 1));
        Check.throwing("2: a contact was made, but the node comes first", IAE, () -> desk.node(8, 1));
        desk.cut(0, 7);
        Check.throwing("2: a contact was made, though cut", ISE, () -> desk.node(2, 1));
    }

    private static void promise3Contact() {
        Desk desk = Desk.of(0, 0, 0);
        Check.due("3: first", 1, desk.contact(0, 1, 0, 3));
        Check.due("3: before", false, desk.open(0, 1, -1));
        Check.due("3: from", true, desk.open(0, 1, 0));
        Check.due("3: to - 1", true, desk.open(0, 1, 2));
        Check.due("3: to", false, desk.open(0, 1, 3));
        Check.throwing("3: open in its last tick", ISE, () -> desk.contact(1, 0, 2, 5));
        Check.due("3: next to it", 2, desk.contact(1, 0, 3, 5));
        Check.due("3: another pair at once", 3, desk.contact(1, 2, 0, 64));
        Check.throwing("3: open in all", ISE, () -> desk.contact(2, 1, 63, 64));
        Check.due("3: open besides", true, desk.open(0, 1, 1));
        int[][] wrong = {
            {3, 0, 6, 7}, {0, 3, 6, 7}, {-1, 0, 6, 7}, {0, 8, 6, 7}, {LEAST, 0, 6, 7}, {0, MOST, 6, 7}, {0, 0, 6, 7},
            {0, 1, 6, 6}, {0, 1, 7, 6}, {0, 1, 63, 65}, {0, 1, 64, 65}, {0, 1, -1, 7}, {0, 1, LEAST, 7},
            {0, 1, 6, MOST}, {0, 1, MOST, LEAST},
        };
        for (int[] w : wrong) {
            Check.throwing("3: wrong " + String.join(",", names(w)), IAE, () -> desk.contact(w[0], w[1], w[2], w[3]));
        }
        Check.due("3: what threw opened nothing", false, desk.open(0, 1, 6));
        desk.tickTo(6);
        Check.throwing("3: from is past", IAE, () -> desk.contact(0, 1, 5, 8));
        Check.throwing("3: past and open: the past comes first", IAE, () -> desk.contact(1, 2, 5, 8));
        Check.due("3: from is NOW", 4, desk.contact(0, 1, 6, 8));
        desk.tickTo(64);
        Check.throwing("3: NOW is 64", IAE, () -> desk.contact(0, 1, 64, 64));
        Check.throwing("3: NOW is 64, beyond", IAE, () -> desk.contact(0, 1, 64, 65));
    }

    private static String[] names(int[] numbers) {
        String[] names = new String[numbers.length];
        for (int i = 0; i < numbers.length; i++) {
            names[i] = String.valueOf(numbers[i]);
        }
        return names;
    }

    private static void promise3ContactLimit() {
        Desk desk = Desk.of(0, 0);
        for (int i = 0; i < 24; i++) {
            Check.due("3: contact " + i, i + 1, desk.contact(0, 1, 2 * i, 2 * i + 1));
        }
        Check.throwing("3: 24 were made", ISE, () -> desk.contact(0, 1, 60, 61));
        Check.throwing("3: 24 were made, but the ticks come first", IAE, () -> desk.contact(0, 1, 60, 60));
        desk.cut(0, 1);
        Check.throwing("3: 24 were made, though cut", ISE, () -> desk.contact(0, 1, 60, 61));
        Check.due("3: no twenty-fifth", false, desk.open(0, 1, 60));
    }

    private static void promise3ContactAfterCut() {
        Desk desk = Desk.of(0, 0);
        desk.contact(0, 1, 0, 10);
        desk.cut(1, 0);
        Check.due("3: open again", 2, desk.contact(0, 1, 0, 4));
        Check.due("3: a way again", 0, desk.book(0, 1, 3));
        Check.due("3: no way where it stays cut", NONE, desk.book(0, 1, 4));
    }

    private static void promise4Now() {
        Desk desk = new Desk();
        for (int t = 0; t < 64; t++) {
            Check.due("4: NOW", t, desk.now());
            desk.tick();
        }
        Check.due("4: NOW at the end", 64, desk.now());
        Check.throwing("4: no more", ISE, desk::tick);
        Check.due("4: 64 at most", 64, desk.now());
    }

    private static void promise5Book() {
        Desk desk = Desk.of(1, 1, 0);
        desk.contact(0, 1, 2, 3);
        desk.contact(1, 2, 4, 5);
        Check.due("5: no way beyond the contacts", NONE, desk.book(0, 2, 3));
        Check.due("5: first handle, NONE gave none", 0, desk.book(0, 2, 1));
        Check.journey("5: journey", desk, 0, 1, 0, 0, 1, 1, 2);
        Check.due("5: last tick", 5, desk.arrival(0));
        Check.due("5: link in use", NONE, desk.book(0, 2, 1));
        Check.due("5: the link's other way is free", 1, desk.book(1, 0, 2));
        Check.due("5: for NOW", RelayPassages.BOOKED, desk.state(1));
        Check.due("5: no way back in time", NONE, desk.book(2, 0, 0));
        desk.contact(0, 2, 0, 1);
        Check.due("5: at NOW", 2, desk.book(0, 2, 0));
        Check.due("5: at NOW it travels", RelayPassages.TRAVELLING, desk.state(2));
    }

    private static void promise5BestWay() {
        Desk desk = Desk.of(2, 1, 1, 0, 1);
        for (int n = 0; n < 4; n++) {
            desk.contact(n, 4, 0, 64);
        }
        desk.contact(3, 1, 0, 64);
        desk.contact(3, 2, 0, 64);
        desk.contact(0, 1, 0, 64);
        Check.due("5: the straight link", 1, desk.whatIf(3, 4, 0));
        desk.book(3, 4, 0);
        desk.book(3, 4, 0);
        Check.journey("5: then by the lesser node", desk, 1, 0, 3, 1, 4);
        desk.book(3, 4, 0);
        Check.journey("5: then by the next one", desk, 2, 0, 3, 2, 4);
        Check.due("5: then none is left, 3 has no places", NONE, desk.book(3, 4, 0));
        Desk late = Desk.of(1, 1, 0);
        late.contact(0, 1, 0, 64);
        late.contact(0, 2, 6, 7);
        late.contact(1, 2, 8, 9);
        late.book(1, 2, 0);
        Check.journey("5: the lesser node at the first tick that differs", late, 0, 0, 1, 0, 0, 0, 0, 0, 0, 2);
        late.book(1, 2, 0);
        Check.journey("5: a place that is used by another is passed by",
            late, 1, 0, 1, 1, 0, 1, 0, 1, 0, 0, 1, 2);
        Desk stay = Desk.of(0, 4, 0, 4);
        stay.contact(1, 3, 0, 64);
        stay.contact(2, 3, 5, 6);
        stay.book(3, 2, 0);
        Check.journey("5: a lesser node is waited in, though the way is longer", stay, 0, 0, 3, 1, 1, 1, 1, 3, 2);
    }

    private static void promise5Places() {
        Desk desk = Desk.of(2, 0);
        desk.contact(0, 1, 5, 9);
        Check.due("5: place one", 0, desk.book(0, 1, 3));
        Check.due("5: place two", 1, desk.book(0, 1, 4));
        Check.due("5: the second leaves a tick later", 7, desk.arrival(1));
        Check.due("5: no place in tick 4", NONE, desk.book(0, 1, 3));
        Check.due("5: a place in tick 5, and in 6", 2, desk.book(0, 1, 5));
        Check.due("5: its last tick", 8, desk.arrival(2));
        Check.due("5: no places at all", NONE, desk.book(1, 0, 4));
        Check.due("5: no need of places", 3, desk.book(1, 0, 5));
    }

    private static void promise5LastTick() {
        Desk desk = Desk.of(1, 1);
        desk.contact(0, 1, 63, 64);
        Check.due("5: all ticks waited", 0, desk.book(0, 1, 0));
        Check.due("5: ends with 64", 64, desk.arrival(0));
        Check.due("5: at 63", 1, desk.book(1, 0, 63));
        Check.journey("5: two nodes", desk, 1, 63, 1, 0);
        Check.due("5: no end beyond 64", NONE, desk.book(0, 1, 63));
    }

    private static void promise5Wrong() {
        Desk desk = Desk.of(1, 1);
        desk.contact(0, 1, 0, 64);
        desk.tick();
        desk.tick();
        int[][] wrong = {
            {2, 0, 3}, {0, 2, 3}, {-1, 0, 3}, {0, -1, 3}, {8, 0, 3}, {0, MOST, 3}, {LEAST, 1, 3}, {0, 0, 3},
            {0, 1, 1}, {0, 1, -1}, {0, 1, 64}, {0, 1, LEAST}, {0, 1, MOST},
        };
        for (int[] w : wrong) {
            Check.throwing("5: wrong " + String.join(",", names(w)), IAE, () -> desk.book(w[0], w[1], w[2]));
            Check.throwing("6: wrong " + String.join(",", names(w)), IAE, () -> desk.whatIf(w[0], w[1], w[2]));
        }
        Check.due("5: what threw gave no handle", 0, desk.book(0, 1, 2));
        desk.tickTo(64);
        Check.throwing("5: NOW is 64", IAE, () -> desk.book(0, 1, 63));
        Check.throwing("5: NOW is 64, at it", IAE, () -> desk.book(0, 1, 64));
    }

    private static void promise5HandleLimit() {
        Desk desk = Desk.of(0, 0, 0);
        desk.contact(0, 1, 0, 64);
        for (int h = 0; h < 32; h++) {
            Check.due("5: handle", h, desk.book(0, 1, h));
            Check.due("5: a handle is not given twice", 1, desk.cancel(h));
        }
        Check.throwing("5: 32 are given", ISE, () -> desk.book(0, 1, 40));
        Check.throwing("6: 32 are given", ISE, () -> desk.whatIf(0, 1, 40));
        Check.throwing("5: 32 are given, and there is no way", ISE, () -> desk.book(0, 2, 40));
        Check.throwing("6: 32 are given, and there is no way", ISE, () -> desk.whatIf(0, 2, 40));
        Check.throwing("5: 32 are given, but the tick comes first", IAE, () -> desk.book(0, 1, 64));
        Check.throwing("6: 32 are given, but the pair comes first", IAE, () -> desk.whatIf(0, 0, 40));
        Check.due("5: the last one is there", RelayPassages.CANCELLED, desk.state(31));
        Check.due("5: no 33rd", 0, desk.state(32));
    }

    private static void promise6WhatIf() {
        Desk desk = Desk.of(1, 1, 0);
        desk.contact(0, 1, 0, 2);
        desk.contact(1, 2, 4, 6);
        Check.due("6: last tick", 5, desk.whatIf(0, 2, 0));
        Check.due("6: the same again, nothing is used", 5, desk.whatIf(0, 2, 0));
        Check.due("6: no handle is given", 0, desk.state(0));
        Check.due("6: no place is used", 0, desk.stored(0, 0) + desk.stored(1, 1) + desk.stored(1, 3));
        Check.due("6: no link is used", 0, desk.linkUsed(0, 1, 0) + desk.linkUsed(1, 2, 4));
        Check.due("6: no way", NONE, desk.whatIf(2, 0, 0));
        desk.book(1, 2, 4);
        Check.due("6: after a booking", 6, desk.whatIf(0, 2, 0));
        Check.journey("6: the journeys stand", desk, 0, 4, 1, 2);
    }

    private static void promise7Cancel() {
        Desk desk = Desk.of(2, 2);
        desk.contact(0, 1, 6, 9);
        desk.book(0, 1, 2);
        desk.book(0, 1, 2);
        desk.book(0, 1, 6);
        for (int h : new int[] {3, -1, 32, LEAST, MOST}) {
            Check.throwing("7: no parcel " + h, NSEE, () -> desk.cancel(h));
        }
        Check.due("7: booked: all of its ticks", 5, desk.cancel(0));
        Check.due("7: state", RelayPassages.CANCELLED, desk.state(0));
        noJourney("7: none any more", desk, 0);
        Check.due("7: a place is free again", 1, desk.free(0, 2));
        Check.due("7: the link is free again", 0, desk.linkUsed(0, 1, 6));
        Check.throwing("7: cancelled before", ISE, () -> desk.cancel(0));
        Check.due("7: the others stay as they are", 8, desk.arrival(1));
        desk.tickTo(4);
        Check.due("7: travelling: the ticks from NOW on", 4, desk.cancel(1));
        Check.journey("7: ends with NOW", desk, 1, 2, 0, 0, 0);
        Check.due("7: what was used stays used", 1, desk.stored(0, 3));
        Check.due("7: NOW is not used", 0, desk.stored(0, 4));
        Check.due("7: no arrival", NONE, desk.arrival(1));
        desk.tickTo(9);
        Check.due("7: arrived", RelayPassages.ARRIVED, desk.state(2));
        Check.throwing("7: arrived", ISE, () -> desk.cancel(2));
        Check.due("7: still arrived", RelayPassages.ARRIVED, desk.state(2));
        Desk other = Desk.of(0, 0);
        other.contact(0, 1, 3, 4);
        other.book(0, 1, 3);
        other.cut(0, 1);
        Check.throwing("7: lost", ISE, () -> other.cancel(0));
        Check.due("7: still lost", RelayPassages.LOST, other.state(0));
    }

    private static void promise7CancelOnFirstTick() {
        Desk desk = Desk.of(1, 0);
        desk.contact(0, 1, 3, 4);
        desk.book(0, 1, 2);
        desk.tickTo(2);
        Check.due("7: on its first tick", 2, desk.cancel(0));
        Check.journey("7: its first tick stays", desk, 0, 2, 0);
        Check.due("7: it uses nothing", 0, desk.stored(0, 2) + desk.linkUsed(0, 1, 3));
        Check.due("7: it never arrives", 0, desk.tick() + desk.tick() + desk.tick());
        Check.due("7: it stays cancelled", RelayPassages.CANCELLED, desk.state(0));
    }

    private static void promise8CutBooked() {
        Desk desk = Desk.of(1, 1, 1);
        desk.contact(0, 2, 4, 6);
        desk.contact(0, 1, 4, 6);
        desk.contact(1, 2, 7, 8);
        desk.book(0, 2, 3);
        Check.journey("8: at first", desk, 0, 3, 0, 0, 2);
        Check.due("8: none lost", 0, desk.cut(2, 0));
        Check.journey("8: from its source at AT", desk, 0, 3, 0, 0, 0, 1, 1, 2);
        Check.due("8: still booked", RelayPassages.BOOKED, desk.state(0));
        Check.due("8: the old link is not used", 0, desk.linkUsed(0, 2, 4));
        Check.due("8: the new one is", 1, desk.linkUsed(1, 2, 7));
        Check.due("8: lost", 1, desk.cut(1, 2));
        Check.due("8: state", RelayPassages.LOST, desk.state(0));
        Check.due("8: no arrival", NONE, desk.arrival(0));
        noJourney("8: a lost one that was booked has none", desk, 0);
        Check.due("8: its places are free", 1, desk.free(0, 3));
        Check.due("8: not touched again", 0, desk.cut(1, 2));
        Check.due("8: a new contact does not bring it back", 4, desk.contact(1, 2, 7, 8));
        Check.due("8: still lost", RelayPassages.LOST, desk.state(0));
    }

    private static void promise8CutTravelling() {
        Desk desk = Desk.of(1, 1, 0, 1);
        desk.contact(0, 1, 1, 2);
        desk.contact(1, 2, 5, 6);
        desk.contact(1, 3, 4, 7);
        desk.contact(2, 3, 6, 9);
        desk.book(0, 2, 0);
        desk.tickTo(3);
        Check.due("8: none lost", 0, desk.cut(1, 2));
        Check.journey("8: goes on from the node for NOW", desk, 0, 0, 0, 0, 1, 1, 1, 1, 3, 2);
        Check.due("8: past ticks stay open", true, desk.open(0, 1, 1));
        Check.due("8: a pair that was used before is cut", 0, desk.cut(0, 1));
        Check.due("8: not touched by it", 7, desk.arrival(0));
        desk.tickTo(4);
        Check.due("8: lost", 1, desk.cut(3, 2));
        Check.journey("8: a lost one that travelled ends with NOW", desk, 0, 0, 0, 0, 1, 1, 1);
        Check.due("8: used in tick 3", 1, desk.stored(1, 3));
        Check.due("8: not used in tick 4", 0, desk.stored(1, 4));
        Check.due("8: nowhere", NONE, desk.where(0));
        desk.tickTo(9);
        Check.due("8: it never arrives", RelayPassages.LOST, desk.state(0));
    }

    private static void promise8CutByRisingHandles() {
        Desk desk = Desk.of(0, 0, 0, 0);
        desk.contact(0, 3, 0, 64);
        desk.contact(0, 1, 0, 64);
        desk.contact(0, 2, 0, 64);
        desk.contact(1, 3, 0, 64);
        desk.contact(2, 3, 0, 64);
        desk.book(0, 3, 5);
        desk.book(0, 3, 5);
        desk.book(0, 3, 4);
        desk.book(1, 3, 7);
        Check.journey("8: straight", desk, 0, 5, 0, 3);
        Check.journey("8: by 1", desk, 1, 5, 0, 1, 3);
        Check.due("8: only the straight ones are touched", 0, desk.cut(0, 3));
        Check.journey("8: 0 takes what 1 left", desk, 0, 5, 0, 2, 3);
        Check.journey("8: 1 stays", desk, 1, 5, 0, 1, 3);
        Check.journey("8: 2 by the lesser node", desk, 2, 4, 0, 1, 3);
        Check.due("8: all three that go by 1 find another way", 0, desk.cut(1, 3));
        Check.journey("8: 0 is not touched", desk, 0, 5, 0, 2, 3);
        Check.journey("8: 1 by 1, back and by 2", desk, 1, 5, 0, 1, 0, 2, 3);
        Check.journey("8: 2 by 2", desk, 2, 4, 0, 2, 3);
        Check.journey("8: 3 back and by 2", desk, 3, 7, 1, 0, 2, 3);
        Check.due("8: all are lost", 4, desk.cut(0, 2));
    }

    private static void promise8CutOffFirst() {
        Desk desk = Desk.of(0, 0, 0, 0, 0);
        desk.contact(0, 4, 4, 5);
        desk.contact(0, 1, 5, 6);
        desk.contact(0, 2, 5, 6);
        desk.contact(1, 2, 6, 7);
        desk.contact(2, 3, 6, 7);
        desk.contact(1, 3, 6, 8);
        desk.book(2, 3, 6);
        desk.book(0, 3, 5);
        desk.book(4, 3, 4);
        Check.journey("8: the lower one at first", desk, 1, 5, 0, 1, 3);
        Check.journey("8: the higher one at first", desk, 2, 4, 4, 0, 2, 1, 3);
        desk.cancel(0);
        Check.due("8: the lower one takes what the higher one had", 1, desk.cut(1, 3));
        Check.journey("8: the lower one then", desk, 1, 5, 0, 2, 3);
        Check.due("8: the higher one is lost", RelayPassages.LOST, desk.state(2));
    }

    private static void promise8CutSparesOthers() {
        Desk desk = Desk.of(0, 0, 0, 0);
        desk.contact(0, 1, 5, 6);
        desk.contact(0, 2, 5, 6);
        desk.contact(1, 3, 6, 7);
        desk.contact(2, 3, 6, 7);
        desk.book(0, 3, 5);
        desk.book(2, 3, 6);
        Check.journey("8: before", desk, 0, 5, 0, 1, 3);
        Check.due("8: one that is not touched keeps its link", 1, desk.cut(1, 3));
        Check.due("8: so the lower one is lost", RelayPassages.LOST, desk.state(0));
        Check.journey("8: and the higher one stays", desk, 1, 6, 2, 3);
    }

    private static void promise8CutBothLinks() {
        Desk desk = Desk.of(2, 2, 0);
        desk.contact(0, 1, 3, 6);
        desk.contact(1, 2, 4, 5);
        desk.contact(0, 2, 8, 9);
        desk.book(1, 0, 3);
        desk.book(0, 2, 3);
        Check.journey("8: there", desk, 1, 3, 0, 1, 2);
        Check.due("8: both are touched", 1, desk.cut(0, 1));
        Check.due("8: one is lost", RelayPassages.LOST, desk.state(0));
        Check.due("8: the other one waits", 9, desk.arrival(1));
    }

    private static void promise8CutUntouched() {
        Desk desk = Desk.of(0, 0, 4);
        desk.contact(0, 1, 0, 8);
        desk.book(0, 1, 0);
        desk.book(0, 1, 5);
        desk.book(1, 0, 6);
        desk.tick();
        Check.due("8: arrived", RelayPassages.ARRIVED, desk.state(0));
        desk.cancel(1);
        Check.due("8: only the one under way is touched", 1, desk.cut(0, 1));
        Check.due("8: arrived stays", RelayPassages.ARRIVED, desk.state(0));
        Check.due("8: its arrival too", 1, desk.arrival(0));
        Check.due("8: and its use", 1, desk.linkUsed(0, 1, 0));
        Check.due("8: cancelled stays", RelayPassages.CANCELLED, desk.state(1));
        Check.due("8: the other link touches as well", RelayPassages.LOST, desk.state(2));
        Check.due("8: a pair that never met", 0, desk.cut(0, 2));
    }

    private static void promise8CutInPresentTick() {
        Desk desk = Desk.of(1, 0);
        desk.contact(0, 1, 2, 3);
        desk.contact(0, 1, 5, 6);
        desk.book(0, 1, 1);
        desk.tickTo(2);
        Check.due("8: cut in the tick of the link", 1, desk.cut(0, 1));
        Check.due("8: NOW is closed", false, desk.open(0, 1, 2));
        Check.due("8: later ticks are closed", false, desk.open(1, 0, 5));
        Check.journey("8: ends with NOW", desk, 0, 1, 0, 0);
        Desk last = Desk.of(1, 0);
        last.contact(0, 1, 63, 64);
        last.book(0, 1, 62);
        last.tickTo(64);
        Check.due("8: NOW is 64: nothing to cut", 0, last.cut(0, 1));
        Check.due("8: tick 63 stays open", true, last.open(0, 1, 63));
        Check.due("8: arrived at 64", RelayPassages.ARRIVED, last.state(0));
    }

    private static void promise8CutWrong() {
        Desk desk = Desk.of(0, 0);
        desk.contact(0, 1, 0, 5);
        int[][] wrong = {{0, 0}, {0, 2}, {2, 0}, {-1, 0}, {0, 8}, {LEAST, 1}, {1, MOST}};
        for (int[] w : wrong) {
            Check.throwing("8: wrong " + String.join(",", names(w)), IAE, () -> desk.cut(w[0], w[1]));
        }
        Check.due("8: still open", true, desk.open(0, 1, 4));
    }

    private static void promise9Tick() {
        Desk desk = Desk.of(4, 4);
        desk.contact(0, 1, 0, 4);
        desk.book(0, 1, 0);
        desk.book(1, 0, 0);
        desk.book(0, 1, 0);
        desk.book(0, 1, 2);
        desk.book(1, 0, 1);
        desk.cancel(4);
        Check.due("9: two arrive", 2, desk.tick());
        Check.due("9: NOW", 1, desk.now());
        Check.due("9: one arrives", 1, desk.tick());
        Check.due("9: one more, the cancelled one not", 1, desk.tick());
        Check.due("9: none is counted twice", 0, desk.tick());
        desk.tickTo(63);
        Check.due("9: to 64", 0, desk.tick());
        Check.throwing("9: NOW is 64", ISE, desk::tick);
        Desk last = Desk.of(0, 0);
        last.contact(0, 1, 63, 64);
        last.book(0, 1, 63);
        last.tickTo(63);
        Check.due("9: one arrives at 64", 1, last.tick());
    }

    private static void promise10State() {
        Desk desk = Desk.of(1, 1);
        desk.contact(0, 1, 3, 8);
        desk.book(0, 1, 2);
        desk.book(0, 1, 5);
        desk.book(0, 1, 6);
        for (int h : new int[] {-1, 3, 31, 32, LEAST, MOST}) {
            Check.due("10: none " + h, 0, desk.state(h));
        }
        int[] due = {RelayPassages.BOOKED, RelayPassages.BOOKED, RelayPassages.TRAVELLING, RelayPassages.TRAVELLING,
            RelayPassages.ARRIVED, RelayPassages.ARRIVED};
        for (int t = 0; t < due.length; t++) {
            desk.tickTo(t);
            Check.due("10: at " + t, due[t], desk.state(0));
        }
        desk.cancel(1);
        Check.due("10: cancelled", RelayPassages.CANCELLED, desk.state(1));
        desk.cut(0, 1);
        Check.due("10: lost", RelayPassages.LOST, desk.state(2));
        desk.tickTo(64);
        Check.due("10: arrived at the end", RelayPassages.ARRIVED, desk.state(0));
        Check.due("10: cancelled at the end", RelayPassages.CANCELLED, desk.state(1));
        Check.due("10: lost at the end", RelayPassages.LOST, desk.state(2));
    }

    private static void promise11Where() {
        Desk desk = Desk.of(1, 1, 1);
        desk.contact(0, 1, 2, 3);
        desk.contact(1, 2, 4, 9);
        desk.book(0, 2, 1);
        desk.book(1, 2, 5);
        int[] due = {NONE, 0, 0, 1, 1, NONE};
        for (int t = 0; t < due.length; t++) {
            desk.tickTo(t);
            Check.due("11: at " + t, due[t], desk.where(0));
        }
        Check.due("11: on its first tick", 1, desk.where(1));
        desk.cancel(1);
        Check.due("11: cancelled", NONE, desk.where(1));
        Check.due("11: though its journey has NOW", 1, desk.step(1, 5));
        desk.book(1, 2, 5);
        desk.cut(1, 2);
        Check.due("11: lost", NONE, desk.where(2));
        for (int h : new int[] {-1, 3, 32, LEAST, MOST}) {
            Check.due("11: none " + h, NONE, desk.where(h));
        }
    }

    private static void promise12Arrival() {
        Desk desk = Desk.of(1, 1);
        desk.contact(0, 1, 3, 9);
        desk.book(0, 1, 2);
        desk.book(0, 1, 5);
        desk.book(0, 1, 6);
        Check.due("12: booked", 4, desk.arrival(0));
        desk.tickTo(2);
        Check.due("12: travelling", 4, desk.arrival(0));
        desk.tickTo(5);
        Check.due("12: arrived", 4, desk.arrival(0));
        Check.due("12: another", 6, desk.arrival(1));
        desk.cancel(1);
        Check.due("12: cancelled", NONE, desk.arrival(1));
        desk.cut(0, 1);
        Check.due("12: lost", NONE, desk.arrival(2));
        Check.due("12: arrived before the cut", 4, desk.arrival(0));
        for (int h : new int[] {-1, 3, 32, LEAST, MOST}) {
            Check.due("12: none " + h, NONE, desk.arrival(h));
        }
    }

    private static void promise13Step() {
        Desk desk = Desk.of(1, 1);
        desk.contact(0, 1, 62, 64);
        desk.book(0, 1, 61);
        desk.book(1, 0, 63);
        Check.journey("13: a journey", desk, 0, 61, 0, 0, 1);
        Check.journey("13: to tick 64", desk, 1, 63, 1, 0);
        for (int t : new int[] {-1, 0, 65, LEAST, MOST}) {
            Check.due("13: no tick " + t, NONE, desk.step(1, t));
        }
        for (int h : new int[] {-1, 2, 32, LEAST, MOST}) {
            Check.due("13: no parcel " + h, NONE, desk.step(h, 63));
        }
        desk.tickTo(64);
        Check.journey("13: when it has arrived", desk, 0, 61, 0, 0, 1);
        Check.due("13: the last tick of all", 0, desk.step(1, 64));
    }

    private static void promise14LinkUsed() {
        Desk desk = Desk.of(1, 1, 0);
        desk.contact(0, 1, 0, 64);
        desk.book(0, 1, 3);
        desk.book(1, 0, 63);
        Check.due("14: used", 1, desk.linkUsed(0, 1, 3));
        Check.due("14: not the other way", 0, desk.linkUsed(1, 0, 3));
        Check.due("14: not before", 0, desk.linkUsed(0, 1, 2));
        Check.due("14: not after", 0, desk.linkUsed(0, 1, 4));
        Check.due("14: in the last tick", 1, desk.linkUsed(1, 0, 63));
        Check.due("14: another pair", 0, desk.linkUsed(0, 2, 3));
        int[][] wrong = {{0, 0, 3}, {0, 3, 3}, {3, 0, 3}, {-1, 1, 3}, {0, 9, 3}, {8, 0, 63}, {LEAST, MOST, 3},
            {0, 1, -1}, {1, 0, 64}, {0, 1, LEAST}, {0, 1, MOST}, {0, 33, 3}, {1, 32, 63}, {0, 65, 3}};
        for (int[] w : wrong) {
            Check.due("14: wrong " + String.join(",", names(w)), 0, desk.linkUsed(w[0], w[1], w[2]));
        }
        desk.tickTo(10);
        Check.due("14: used in the past", 1, desk.linkUsed(0, 1, 3));
        desk.book(0, 1, 10);
        desk.cancel(2);
        Check.due("14: given back", 0, desk.linkUsed(0, 1, 10));
    }

    private static void promise15Stored() {
        Desk desk = Desk.of(3, 0);
        desk.contact(0, 1, 5, 64);
        desk.book(0, 1, 4);
        desk.book(0, 1, 4);
        desk.book(0, 1, 3);
        int[] due = {0, 0, 0, 1, 3, 2, 1, 0};
        for (int t = 0; t < due.length; t++) {
            Check.due("15: in tick " + t, due[t], desk.stored(0, t));
        }
        Check.due("15: the goal's places are not used", 0, desk.stored(1, 6));
        for (int n : new int[] {-1, 2, 8, LEAST, MOST}) {
            Check.due("15: no node " + n, 0, desk.stored(n, 4));
        }
        for (int t : new int[] {-1, 64, LEAST, MOST}) {
            Check.due("15: no tick " + t, 0, desk.stored(0, t));
        }
        desk.tickTo(5);
        desk.cancel(1);
        Check.due("15: past uses stay", 3, desk.stored(0, 4));
        Check.due("15: from NOW on one less", 1, desk.stored(0, 5));
    }

    private static void promise16Open() {
        Desk desk = Desk.of(0, 0, 0);
        desk.contact(1, 0, 0, 2);
        desk.contact(0, 1, 62, 64);
        boolean[] due = {true, true, false};
        for (int t = 0; t < due.length; t++) {
            Check.due("16: in tick " + t, due[t], desk.open(0, 1, t));
            Check.due("16: in tick " + t + ", in either order", due[t], desk.open(1, 0, t));
        }
        Check.due("16: in the last tick", true, desk.open(0, 1, 63));
        Check.due("16: another pair", false, desk.open(0, 2, 0));
        int[][] wrong = {{0, 0, 0}, {0, 3, 0}, {3, 0, 0}, {-1, 1, 0}, {0, 9, 0}, {8, 1, 0}, {0, 33, 0},
            {LEAST, MOST, 0}, {0, 1, -1}, {0, 1, 64}, {0, 1, LEAST}, {0, 1, MOST}};
        for (int[] w : wrong) {
            Check.due("16: wrong " + String.join(",", names(w)), false, desk.open(w[0], w[1], w[2]));
        }
        desk.book(0, 1, 0);
        Check.due("16: open though used", true, desk.open(0, 1, 0));
        desk.tick();
        desk.cut(0, 1);
        Check.due("16: past ticks stay open", true, desk.open(0, 1, 0));
        Check.due("16: cut from NOW on", false, desk.open(0, 1, 1) || desk.open(0, 1, 63));
    }

    private static void promise17Free() {
        Desk desk = Desk.of(4, 0);
        desk.contact(0, 1, 2, 64);
        desk.book(0, 1, 1);
        desk.book(0, 1, 1);
        int[] due = {4, 2, 3, 4};
        for (int t = 0; t < due.length; t++) {
            Check.due("17: in tick " + t, due[t], desk.free(0, t));
        }
        Check.due("17: in the last tick", 4, desk.free(0, 63));
        Check.due("17: no places", 0, desk.free(1, 0));
        for (int n : new int[] {-1, 2, 8, LEAST, MOST}) {
            Check.due("17: no node " + n, NONE, desk.free(n, 1));
        }
        for (int t : new int[] {-1, 64, LEAST, MOST}) {
            Check.due("17: no tick " + t, NONE, desk.free(0, t));
        }
        desk.cancel(0);
        Check.due("17: given back", 3, desk.free(0, 1));
        desk.tickTo(5);
        Check.due("17: past uses stay", 3, desk.free(0, 1));
    }
}
