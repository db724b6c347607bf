import java.util.ArrayList;
import java.util.Arrays;
import java.util.List;
import java.util.NoSuchElementException;
import java.util.TreeMap;

/**
 * A second, slow reading of the document, as near to its words as can be: nothing is kept but the nodes, the open
 * ticks and the journeys; what is used is counted anew from the journeys each time.
 */
final class Model {
    private static final class Parcel {
        int source;
        int goal;
        int at;
        int state;
        TreeMap<Integer, Integer> journey = new TreeMap<>();

        boolean uses(int from, int to, int t) {
            return journey.containsKey(t) && journey.containsKey(t + 1)
                && journey.get(t) == from && journey.get(t + 1) == to;
        }
    }

    private final TreeMap<Integer, Integer> nodes = new TreeMap<>();
    private final boolean[][][] opened = new boolean[8][8][64];
    private final List<Parcel> parcels = new ArrayList<>();
    private int contacts = 0;
    private int now = 0;

    int node(int n, int places) {
        demand(n >= 0 && n <= 7 && places >= 0 && places <= 4);
        allow(!nodes.containsKey(n) && contacts == 0);
        nodes.put(n, places);
        return nodes.size();
    }

    int contact(int a, int b, int from, int to) {
        demand(isPair(a, b) && from >= now && from < to && to <= 64);
        allow(contacts < 24);
        for (int t = from; t < to; t++) {
            allow(!open(a, b, t));
        }
        for (int t = from; t < to; t++) {
            opened[Math.min(a, b)][Math.max(a, b)][t] = true;
        }
        return ++contacts;
    }

    int now() {
        return now;
    }

    int book(int source, int goal, int at) {
        checkBooking(source, goal, at);
        List<Integer> way = bestWay(source, at, goal);
        if (way == null) {
            return -1;
        }
        Parcel parcel = new Parcel();
        parcel.source = source;
        parcel.goal = goal;
        parcel.at = at;
        parcel.state = now < at ? 1 : 2;
        goOn(parcel, at, way);
        parcels.add(parcel);
        return parcels.size() - 1;
    }

    int whatIf(int source, int goal, int at) {
        checkBooking(source, goal, at);
        List<Integer> way = bestWay(source, at, goal);
        return way == null ? -1 : at + way.size() - 1;
    }

    int cancel(int h) {
        if (!isParcel(h)) {
            throw new NoSuchElementException();
        }
        Parcel parcel = parcels.get(h);
        allow(parcel.state == 1 || parcel.state == 2);
        int before = ticksUsed(parcel);
        parcel.state = 4;
        cutOff(parcel);
        return before - ticksUsed(parcel);
    }

    int cut(int a, int b) {
        demand(isPair(a, b));
        for (int t = now; t < 64; t++) {
            opened[Math.min(a, b)][Math.max(a, b)][t] = false;
        }
        List<Parcel> touched = new ArrayList<>();
        for (Parcel parcel : parcels) {
            boolean uses = false;
            for (int t = now; t < 64; t++) {
                uses |= parcel.uses(a, b, t) || parcel.uses(b, a, t);
            }
            if (uses && (parcel.state == 1 || parcel.state == 2)) {
                touched.add(parcel);
            }
        }
        for (Parcel parcel : touched) {
            cutOff(parcel);
        }
        int lost = 0;
        for (Parcel parcel : touched) {
            int start = parcel.state == 1 ? parcel.at : now;
            int from = parcel.state == 1 ? parcel.source : parcel.journey.get(now);
            List<Integer> way = bestWay(from, start, parcel.goal);
            if (way == null) {
                parcel.state = 5;
                lost++;
            } else {
                goOn(parcel, start, way);
            }
        }
        return lost;
    }

    int tick() {
        allow(now < 64);
        now++;
        int arrived = 0;
        for (Parcel parcel : parcels) {
            if (parcel.state == 1 && now >= parcel.at) {
                parcel.state = 2;
            }
            if (parcel.state == 2 && parcel.journey.lastKey() == now) {
                parcel.state = 3;
                arrived++;
            }
        }
        return arrived;
    }

    int state(int h) {
        return isParcel(h) ? parcels.get(h).state : 0;
    }

    int where(int h) {
        return state(h) == 2 ? step(h, now) : -1;
    }

    int arrival(int h) {
        int state = state(h);
        return state >= 1 && state <= 3 ? parcels.get(h).journey.lastKey() : -1;
    }

    int step(int h, int t) {
        return isParcel(h) ? parcels.get(h).journey.getOrDefault(t, -1) : -1;
    }

    int linkUsed(int a, int b, int t) {
        return isPair(a, b) && isTick(t) ? users(a, b, t) : 0;
    }

    int stored(int n, int t) {
        return nodes.containsKey(n) && isTick(t) ? users(n, n, t) : 0;
    }

    boolean open(int a, int b, int t) {
        return isPair(a, b) && isTick(t) && opened[Math.min(a, b)][Math.max(a, b)][t];
    }

    int free(int n, int t) {
        return nodes.containsKey(n) && isTick(t) ? nodes.get(n) - users(n, n, t) : -1;
    }

    private static void demand(boolean good) {
        if (!good) {
            throw new IllegalArgumentException();
        }
    }

    private static void allow(boolean good) {
        if (!good) {
            throw new IllegalStateException();
        }
    }

    private static boolean isTick(int t) {
        return t >= 0 && t <= 63;
    }

    private boolean isParcel(int h) {
        return h >= 0 && h < parcels.size();
    }

    private boolean isPair(int a, int b) {
        return nodes.containsKey(a) && nodes.containsKey(b) && a != b;
    }

    private void checkBooking(int source, int goal, int at) {
        demand(isPair(source, goal) && at >= now && at <= 63);
        allow(parcels.size() < 32);
    }

    private int users(int from, int to, int t) {
        int users = 0;
        for (Parcel parcel : parcels) {
            users += parcel.uses(from, to, t) ? 1 : 0;
        }
        return users;
    }

    private static int ticksUsed(Parcel parcel) {
        return Math.max(0, parcel.journey.size() - 1);
    }

    private void cutOff(Parcel parcel) {
        if (parcel.journey.firstKey() > now) {
            parcel.journey.clear();
        } else {
            parcel.journey.tailMap(now, false).clear();
        }
    }

    private static void goOn(Parcel parcel, int start, List<Integer> way) {
        for (int i = 0; i < way.size(); i++) {
            parcel.journey.put(start + i, way.get(i));
        }
    }

    private boolean canGo(int from, int to, int t) {
        return from == to ? users(from, from, t) < nodes.get(from) : open(from, to, t) && users(from, to, t) == 0;
    }

    private List<Integer> bestWay(int source, int start, int goal) {
        for (int end = start + 1; end <= 64; end++) {
            int[] way = new int[65];
            boolean[][] dead = new boolean[8][65];
            way[start] = source;
            if (endsAt(way, start, goal, end, dead)) {
                List<Integer> found = new ArrayList<>();
                Arrays.stream(way, start, end + 1).forEach(found::add);
                return found;
            }
        }
        return null;
    }

    /** Tries the lesser nodes first, so that the first way found is the best one that ends at end. */
    private boolean endsAt(int[] way, int t, int goal, int end, boolean[][] dead) {
        if (t == end) {
            return way[t] == goal;
        }
        if (way[t] == goal || dead[way[t]][t]) {
            return false;
        }
        for (int next : nodes.keySet()) {
            if (canGo(way[t], next, t)) {
                way[t + 1] = next;
                if (endsAt(way, t + 1, goal, end, dead)) {
                    return true;
                }
            }
        }
        dead[way[t]][t] = true;
        return false;
    }
}
