import java.lang.management.ManagementFactory;
import java.lang.reflect.Array;
import java.lang.reflect.Field;
import java.lang.reflect.Modifier;
import java.util.ArrayDeque;
import java.util.Collections;
import java.util.Deque;
import java.util.IdentityHashMap;
import java.util.Set;
import java.util.function.Consumer;

/**
 * All calls of a run live in one room of some 600,000 objects: an object of the class is small, and only the booking of
 * a parcel makes it larger.
 */
public final class RoomTest {
    private static final int ROUNDS = 30;
    // A parcel made in each round would be some 9,000 bytes; the counting itself may make a few.
    private static final long NOTHING = 2000;

    private int objects = 0;
    private int elements = 0;

    private RoomTest(RelayPassages desk) throws IllegalAccessException {
        Set<Object> seen = Collections.newSetFromMap(new IdentityHashMap<>());
        Deque<Object> open = new ArrayDeque<>();
        open.add(desk);
        while (!open.isEmpty()) {
            Object next = open.remove();
            if (seen.add(next)) {
                count(next, open);
            }
        }
    }

    public static void main(String[] args) throws IllegalAccessException {
        RoomTest fresh = new RoomTest(new RelayPassages());
        Check.due("objects and arrays of a new desk", 10, fresh.objects);
        Check.due("its fields and elements", 1720, fresh.elements);
        RoomTest full = new RoomTest(fullDesk());
        Check.due("objects and arrays of a desk with 32 parcels", 10 + 32 * 2, full.objects);
        Check.due("its fields and elements", 1720 + 32 * 70, full.elements);
        checkNothingMade("whatIf with a way", desk -> desk.whatIf(0, 7, 0));
        checkNothingMade("whatIf without one", desk -> desk.whatIf(7, 0, 63));
        checkNothingMade("book without a way", desk -> desk.book(7, 0, 63));
        checkNothingMade("cut that touches nothing", desk -> desk.cut(0, 6));
        checkNothingMade("looks", RoomTest::look);
        Check.end();
    }

    private void count(Object thing, Deque<Object> open) throws IllegalAccessException {
        objects++;
        if (thing.getClass().isArray()) {
            elements += Array.getLength(thing);
            for (int i = 0; i < Array.getLength(thing) && thing instanceof Object[] row; i++) {
                addTo(open, row[i]);
            }
            return;
        }
        for (Field field : thing.getClass().getDeclaredFields()) {
            if (!Modifier.isStatic(field.getModifiers())) {
                elements++;
                field.setAccessible(true);
                addTo(open, field.getType().isPrimitive() ? null : field.get(thing));
            }
        }
    }

    private static void addTo(Deque<Object> open, Object thing) {
        if (thing != null) {
            open.add(thing);
        }
    }

    private static RelayPassages desk() {
        RelayPassages desk = new RelayPassages();
        for (int n = 0; n < 8; n++) {
            desk.node(n, 4);
        }
        for (int n = 0; n < 7; n++) {
            desk.contact(n, n + 1, 0, 62);
        }
        return desk;
    }

    /** Every parcel is cut off twice, and all are lost in the end. */
    private static RelayPassages fullDesk() {
        RelayPassages desk = desk();
        desk.contact(0, 7, 0, 64);
        for (int i = 0; i < 32; i++) {
            Check.due("booking " + i, i, desk.book(0, 7, i));
        }
        Check.due("lost by the first cut", 0, desk.cut(0, 7));
        Check.due("lost by the second one", 32, desk.cut(6, 7));
        return desk;
    }

    private static void look(RelayPassages desk) {
        desk.state(0);
        desk.where(0);
        desk.arrival(0);
        desk.step(0, 0);
        desk.linkUsed(0, 1, 0);
        desk.stored(0, 0);
        desk.open(0, 1, 0);
        desk.free(0, 0);
        desk.now();
    }

    private static void checkNothingMade(String what, Consumer<RelayPassages> calls) {
        made(calls, 1);
        long bytes = made(calls, ROUNDS);
        Check.due(what + " makes nothing (made were " + bytes + " bytes)", true, bytes < NOTHING);
    }

    private static long made(Consumer<RelayPassages> calls, int times) {
        var thread = (com.sun.management.ThreadMXBean) ManagementFactory.getThreadMXBean();
        long id = Thread.currentThread().getId();
        RelayPassages desk = desk();
        desk.book(0, 7, 0);
        long before = thread.getThreadAllocatedBytes(id);
        for (int i = 0; i < times; i++) {
            calls.accept(desk);
        }
        return thread.getThreadAllocatedBytes(id) - before;
    }
}
