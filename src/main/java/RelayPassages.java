import java.util.NoSuchElementException;

/**
 * A desk that books parcels their whole journeys over nodes that meet by a plan known ahead.
 * The promises it keeps are numbered in the document, DOC.md.
 */
public final class RelayPassages {
    public static final int NONE = -1;
    public static final int BOOKED = 1, TRAVELLING = 2, ARRIVED = 3, CANCELLED = 4, LOST = 5;

    private static final int NODES = 8;
    private static final int TICKS = 64;
    private static final int MOST_PLACES = 4;
    private static final int MOST_CONTACTS = 24;
    private static final int MOST_PARCELS = 32;

    private final Network network;
    private final WayFinder finder;
    private final Parcel[] parcels;
    private int given;
    private int now;

    /** Promise 1. */
    public RelayPassages() {
        network = new Network();
        finder = new WayFinder();
        parcels = new Parcel[MOST_PARCELS];
        given = 0;
        now = 0;
    }

    /** Promise 2. */
    public int node(int n, int places) throws IllegalArgumentException, IllegalStateException {
        if (n < 0 || n >= NODES) {
            throw new IllegalArgumentException("a node is 0 .. 7");
        }
        if (places < 0 || places > MOST_PLACES) {
            throw new IllegalArgumentException("a node has 0 .. 4 places");
        }
        if (network.isNode(n)) {
            throw new IllegalStateException("there is such a node");
        }
        if (network.contacts > 0) {
            throw new IllegalStateException("a contact was made");
        }
        network.makeNode(n, places);
        return network.nodes;
    }

    /** Promise 3. */
    public int contact(int a, int b, int from, int to) throws IllegalArgumentException, IllegalStateException {
        checkPair(a, b);
        if (from < now || from >= to || to > TICKS) {
            throw new IllegalArgumentException("no ticks for a contact");
        }
        if (network.contacts >= MOST_CONTACTS) {
            throw new IllegalStateException("24 contacts were made");
        }
        if (network.isOpenWithin(a, b, from, to)) {
            throw new IllegalStateException("the pair is open in one of these ticks");
        }
        network.makeContact(a, b, from, to);
        return network.contacts;
    }

    /** Promise 4. */
    public int now() {
        return now;
    }

    /** Promise 5. */
    public int book(int source, int goal, int at) throws IllegalArgumentException, IllegalStateException {
        checkBooking(source, goal, at);
        int end = finder.seek(network, source, at, goal);
        if (end == NONE) {
            return NONE;
        }
        Parcel parcel = new Parcel(goal, at);
        giveJourney(parcel, at, end);
        parcels[given] = parcel;
        given++;
        return given - 1;
    }

    /** Promise 6. */
    public int whatIf(int source, int goal, int at) throws IllegalArgumentException, IllegalStateException {
        checkBooking(source, goal, at);
        return finder.seek(network, source, at, goal);
    }

    /** Promise 7. */
    public int cancel(int h) throws NoSuchElementException, IllegalStateException {
        Parcel parcel = parcelOf(h);
        if (parcel == null) {
            throw new NoSuchElementException("there is no such parcel");
        }
        if (!parcel.isUnderWay(now)) {
            throw new IllegalStateException("the parcel is neither booked nor travelling");
        }
        parcel.fate = CANCELLED;
        return cutOff(parcel);
    }

    /** Promise 8. */
    public int cut(int a, int b) throws IllegalArgumentException {
        checkPair(a, b);
        network.closeFrom(a, b, now);
        long touched = cutOffTouched(a, b);
        int lost = 0;
        for (int h = 0; h < given; h++) {
            Parcel parcel = parcelOf(h);
            if (parcel != null && (touched >> h & 1) != 0 && !bookAnew(parcel)) {
                parcel.fate = LOST;
                lost++;
            }
        }
        return lost;
    }

    /** Promise 9. */
    public int tick() throws IllegalStateException {
        if (now >= TICKS) {
            throw new IllegalStateException("NOW is 64");
        }
        now++;
        int arrived = 0;
        for (int h = 0; h < given; h++) {
            Parcel parcel = parcelOf(h);
            if (parcel != null && parcel.stateAt(now) == ARRIVED && parcel.last == now) {
                arrived++;
            }
        }
        return arrived;
    }

    /** Promise 10. */
    public int state(int h) {
        Parcel parcel = parcelOf(h);
        return parcel == null ? 0 : parcel.stateAt(now);
    }

    /** Promise 11. */
    public int where(int h) {
        Parcel parcel = parcelOf(h);
        return parcel != null && parcel.stateAt(now) == TRAVELLING ? parcel.nodeFor(now) : NONE;
    }

    /** Promise 12. */
    public int arrival(int h) {
        Parcel parcel = parcelOf(h);
        return parcel != null && parcel.fate == 0 ? parcel.last : NONE;
    }

    /** Promise 13. */
    public int step(int h, int t) {
        Parcel parcel = parcelOf(h);
        return parcel == null ? NONE : parcel.nodeFor(t);
    }

    /** Promise 14. */
    public int linkUsed(int a, int b, int t) {
        return network.isPair(a, b) && isTick(t) ? network.usersOfLink(a, b, t) : 0;
    }

    /** Promise 15. */
    public int stored(int n, int t) {
        return network.isNode(n) && isTick(t) ? network.usersOfPlaces(n, t) : 0;
    }

    /** Promise 16. */
    public boolean open(int a, int b, int t) {
        return network.isPair(a, b) && isTick(t) && network.isOpenWithin(a, b, t, t + 1);
    }

    /** Promise 17. */
    public int free(int n, int t) {
        return network.isNode(n) && isTick(t) ? network.placesLeft(n, t) : NONE;
    }

    private static boolean isTick(int t) {
        return t >= 0 && t < TICKS;
    }

    private static boolean isInSet(int set, int n) {
        return (set >> n & 1) != 0;
    }

    private Parcel parcelOf(int h) {
        return h >= 0 && h < given ? parcels[h] : null;
    }

    private void checkPair(int a, int b) {
        if (!network.isPair(a, b)) {
            throw new IllegalArgumentException("these are no two different nodes");
        }
    }

    private void checkBooking(int source, int goal, int at) {
        checkPair(source, goal);
        if (at < now || at >= TICKS) {
            throw new IllegalArgumentException("no tick to book for");
        }
        if (given >= MOST_PARCELS) {
            throw new IllegalStateException("32 handles are given");
        }
    }

    /** The parcel's journey is, or goes on with, the way that the finder found last. */
    private void giveJourney(Parcel parcel, int start, int end) {
        for (int t = start; t <= end; t++) {
            parcel.nodes[t] = finder.way[t];
        }
        parcel.last = end;
        for (int t = start; t < end; t++) {
            network.take(parcel.nodes[t], parcel.nodes[t + 1], t);
        }
    }

    /** Answers for how many ticks the journey uses less than before. */
    private int cutOff(Parcel parcel) {
        int start = Math.max(parcel.at, now);
        int less = parcel.last - start;
        for (int t = start; t < parcel.last; t++) {
            network.giveBack(parcel.nodes[t], parcel.nodes[t + 1], t);
        }
        parcel.last = parcel.at > now ? NONE : now;
        return less;
    }

    /** Answers the set of the touched parcels: bit h stands for handle h. */
    private long cutOffTouched(int a, int b) {
        long touched = 0;
        for (int h = 0; h < given; h++) {
            Parcel parcel = parcelOf(h);
            if (parcel != null && parcel.isUnderWay(now) && parcel.usesPairFrom(a, b, now)) {
                cutOff(parcel);
                touched |= 1L << h;
            }
        }
        return touched;
    }

    /** Answers whether there is a way for the parcel, whose journey was cut off. */
    private boolean bookAnew(Parcel parcel) {
        int start = Math.max(parcel.at, now);
        // A cut-off journey keeps its row, so this is the source for AT as well as the node for NOW.
        int end = finder.seek(network, parcel.nodes[start], start, parcel.goal);
        if (end == NONE) {
            return false;
        }
        giveJourney(parcel, start, end);
        return true;
    }

    /** The nodes, what is open between them, and what the journeys use of them. */
    private static final class Network {
        int nodes;
        int contacts;
        // The set of the nodes that there are; bit n stands for node n in this and all sets of nodes.
        private int made;
        private final int[] places = new int[NODES];
        // One cell for each tick and node; in the first two it holds the set of the nodes at the other ends of links.
        private final int[] openTo = new int[TICKS * NODES];
        private final int[] usedTo = new int[TICKS * NODES];
        private final int[] storedAt = new int[TICKS * NODES];

        private static int cell(int n, int t) {
            return t * NODES + n;
        }

        boolean isNode(int n) {
            return n >= 0 && n < NODES && isInSet(made, n);
        }

        boolean isPair(int a, int b) {
            return isNode(a) && isNode(b) && a != b;
        }

        void makeNode(int n, int count) {
            places[n] = count;
            made |= 1 << n;
            nodes++;
        }

        boolean isOpenWithin(int a, int b, int from, int to) {
            for (int t = from; t < to; t++) {
                if (isInSet(openTo[cell(a, t)], b)) {
                    return true;
                }
            }
            return false;
        }

        void makeContact(int a, int b, int from, int to) {
            for (int t = from; t < to; t++) {
                openTo[cell(a, t)] |= 1 << b;
                openTo[cell(b, t)] |= 1 << a;
            }
            contacts++;
        }

        void closeFrom(int a, int b, int from) {
            for (int t = from; t < TICKS; t++) {
                openTo[cell(a, t)] &= ~(1 << b);
                openTo[cell(b, t)] &= ~(1 << a);
            }
        }

        /** One at most: a way takes free links alone, so a link never has a second user. */
        int usersOfLink(int a, int b, int t) {
            return isInSet(usedTo[cell(a, t)], b) ? 1 : 0;
        }

        int usersOfPlaces(int n, int t) {
            return storedAt[cell(n, t)];
        }

        int placesLeft(int n, int t) {
            return places[n] - storedAt[cell(n, t)];
        }

        /** The set of the nodes for t + 1 that a way can have after node n for t. */
        int onward(int n, int t) {
            int at = cell(n, t);
            int byLink = openTo[at] & ~usedTo[at];
            return storedAt[at] < places[n] ? byLink | 1 << n : byLink;
        }

        void take(int n, int next, int t) {
            if (n == next) {
                storedAt[cell(n, t)]++;
            } else {
                usedTo[cell(n, t)] |= 1 << next;
            }
        }

        void giveBack(int n, int next, int t) {
            if (n == next) {
                storedAt[cell(n, t)]--;
            } else {
                usedTo[cell(n, t)] &= ~(1 << next);
            }
        }
    }

    /** A parcel and its journey: the nodes for the ticks at .. last, or none when last is NONE. */
    private static final class Parcel {
        final int goal;
        final int at;
        final int[] nodes = new int[TICKS + 1];
        int last = NONE;
        // CANCELLED or LOST; 0 while time alone tells the state.
        int fate = 0;

        Parcel(int goal, int at) {
            this.goal = goal;
            this.at = at;
        }

        int stateAt(int tick) {
            if (fate != 0) {
                return fate;
            }
            if (tick < at) {
                return BOOKED;
            }
            return tick < last ? TRAVELLING : ARRIVED;
        }

        boolean isUnderWay(int tick) {
            int state = stateAt(tick);
            return state == BOOKED || state == TRAVELLING;
        }

        int nodeFor(int t) {
            return t >= at && t <= last ? nodes[t] : NONE;
        }

        boolean usesPairFrom(int a, int b, int from) {
            for (int t = Math.max(at, from); t < last; t++) {
                boolean there = nodes[t] == a && nodes[t + 1] == b;
                boolean back = nodes[t] == b && nodes[t + 1] == a;
                if (there || back) {
                    return true;
                }
            }
            return false;
        }
    }

    /** Finds best ways; its rows are made once and used for every search. */
    private static final class WayFinder {
        final int[] way = new int[TICKS + 1];
        private final int[] leading = new int[TICKS + 1];

        /** Answers the last tick of the best way and leaves its nodes in the row way; NONE when there is no way. */
        int seek(Network network, int from, int start, int goal) {
            int end = soonestEnd(network, from, start, goal);
            if (end != NONE) {
                markLeading(network, start, end, goal);
                walk(network, from, start, end);
            }
            return end;
        }

        private static int soonestEnd(Network network, int from, int start, int goal) {
            int reached = 1 << from;
            for (int t = start; t < TICKS; t++) {
                reached = onwardOfAll(network, reached, t);
                if (isInSet(reached, goal)) {
                    return t + 1;
                }
            }
            return NONE;
        }

        private static int onwardOfAll(Network network, int set, int t) {
            int next = 0;
            for (int n = 0; n < NODES; n++) {
                if (isInSet(set, n)) {
                    next |= network.onward(n, t);
                }
            }
            return next;
        }

        /** For each tick the set of the nodes from which the goal can be had at the tick end. */
        private void markLeading(Network network, int start, int end, int goal) {
            leading[end] = 1 << goal;
            for (int t = end - 1; t >= start; t--) {
                int set = 0;
                for (int n = 0; n < NODES; n++) {
                    if ((network.onward(n, t) & leading[t + 1]) != 0) {
                        set |= 1 << n;
                    }
                }
                leading[t] = set;
            }
        }

        // The end is the soonest one, so no walk along leading nodes can come by the goal before it.
        private void walk(Network network, int from, int start, int end) {
            way[start] = from;
            for (int t = start; t < end; t++) {
                way[t + 1] = leastOf(network.onward(way[t], t) & leading[t + 1]);
            }
        }

        private static int leastOf(int set) {
            int n = 0;
            while (n < NODES - 1 && !isInSet(set, n)) {
                n++;
            }
            return n;
        }
    }
}
