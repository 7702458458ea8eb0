import java.lang.reflect.Array;
import java.lang.reflect.Field;
import java.lang.reflect.Modifier;
import java.util.ArrayDeque;
import java.util.Deque;
import java.util.IdentityHashMap;
import java.util.Map;

/** What a ledger holds: a small part of the one room that all calls of a run share, and no more after any call. */
public final class RoomTest {
    private static final int ROOM_OBJECTS = 600000;
    private static final int ROOM_ELEMENTS = 7300000;
    private static final int LEDGERS_IN_A_ROOM = 200;

    private final Map<Object, Boolean> met = new IdentityHashMap<>();
    private final Deque<Object> waiting = new ArrayDeque<>();
    private int elements;

    public static void main(String[] args) throws IllegalAccessException {
        FranchiseLedger fresh = new FranchiseLedger();
        RoomTest room = new RoomTest();
        room.measure(fresh);
        Check.due(room.met.size() + " objects are few", true, room.met.size() <= ROOM_OBJECTS / LEDGERS_IN_A_ROOM);
        Check.due(room.elements + " elements are few", true, room.elements <= ROOM_ELEMENTS / LEDGERS_IN_A_ROOM);

        RoomTest later = new RoomTest();
        later.measure(used());
        Check.due("objects of a ledger that has been used", room.met.size(), later.met.size());
        Check.due("elements of a ledger that has been used", room.elements, later.elements);
        Check.end();
    }

    /** After calls of all kinds that keep something. */
    private static FranchiseLedger used() {
        FranchiseLedger ledger = Ledgers.FULL.get();
        Check.loadJournal(ledger, "close;close;close;".repeat(13));
        ledger.saveSnapshot(0);
        ledger.runJournal(40);
        ledger.saveSnapshot(1);
        ledger.restoreSnapshot(0);
        for (int month = ledger.month(); month < 60; month++) {
            ledger.closeMonth();
        }
        ledger.formatInvoice(0, 59);
        Check.load(ledger, "plan 1 2;franchisee ann 0 1;area ann 0 0 30 30;outlet ann 29 29;");
        ledger.openOutlet(0, 0, 0);
        ledger.bestSite(0);
        ledger.isConnected(0);
        return ledger;
    }

    /** Counts everything that can be reached from an object by its fields. */
    private void measure(Object first) throws IllegalAccessException {
        meet(first);
        while (!waiting.isEmpty()) {
            Object next = waiting.remove();
            if (next.getClass().isArray()) {
                enterArray(next);
            } else {
                enterFields(next);
            }
        }
    }

    private void enterArray(Object array) {
        int length = Array.getLength(array);
        elements += length;
        if (!array.getClass().getComponentType().isPrimitive()) {
            for (int i = 0; i < length; i++) {
                meet(Array.get(array, i));
            }
        }
    }

    private void enterFields(Object object) throws IllegalAccessException {
        for (Field field : object.getClass().getDeclaredFields()) {
            if (Modifier.isStatic(field.getModifiers())) {
                continue;
            }
            elements++;
            if (!field.getType().isPrimitive()) {
                field.setAccessible(true);
                meet(field.get(object));
            }
        }
    }

    private void meet(Object object) {
        if (object != null && met.put(object, true) == null) {
            waiting.add(object);
        }
    }
}
