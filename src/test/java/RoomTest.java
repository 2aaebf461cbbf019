import java.lang.management.ManagementFactory;
import java.lang.reflect.Array;
import java.lang.reflect.Field;
import java.lang.reflect.Modifier;
import java.util.IdentityHashMap;
import java.util.Map;

/** 512 calls of each of the dearest kinds end, and make next to nothing; what the constructor makes is small. */
public final class RoomTest {
    private static final Check CHECK = new Check();
    private static final int CALLS = 512;
    /** The room is 600,000 objects and 7,300,000 fields and elements for all calls of one run. */
    private static final long MOST_OBJECTS = 1000;
    private static final long MOST_ELEMENTS = 400_000;
    /** What the machine itself may count in beside the calls. */
    private static final long MOST_BYTES = 100_000;

    private static final String[] DEAREST = {"factors", "counts by changed laws", "rank and tell by laws in turn", "heap", "filling",
        "combine", "core and join", "leads", "clash by cores", "copy and undo"};

    public static void main(String[] args) throws IllegalAccessException {
        com.sun.management.ThreadMXBean meter = (com.sun.management.ThreadMXBean) ManagementFactory.getThreadMXBean();
        long id = Thread.currentThread().getId();
        for (int kind = 0; kind < DEAREST.length; kind++) {
            PartitionPress press = made();
            long before = meter.getThreadAllocatedBytes(id);
            for (int i = 0; i < CALLS; i++) {
                call(press, kind, i);
            }
            long bytes = meter.getThreadAllocatedBytes(id) - before;
            CHECK.holds(DEAREST[kind] + ": bytes " + bytes, bytes < MOST_BYTES);
            measure(press, DEAREST[kind]);
        }
        CHECK.end();
    }

    private static PartitionPress made() {
        PartitionPress press = new PartitionPress();
        press.law(1, 1, 1, 1, 1, 0);
        press.law(2, 2, 1, 2, 1, 1);
        press.law(3, 3, 60, 60, 0, 0);
        press.law(5, 5, 12, 0, 0, 0);
        press.tell(0, 400, press.count(0, 400) / 2, 0);
        press.tell(1, 400, press.count(1, 400) / 2, 1);
        press.tell(2, 400, press.count(2, 400) / 2, 2);
        press.tell(0, 30, 2800, 3);
        press.tell(0, 400, press.count(0, 400) - 1, 6);
        return press;
    }

    private static void call(PartitionPress press, int kind, int i) {
        switch (kind) {
            case 0:
                CHECK.due("factors", press.factors(0, 1, 0, i % 2 == 0 ? 20 : -20), 1);
                break;
            case 1:
                if (i % 2 == 0) {
                    CHECK.holds("law", press.law(4, 1 + i / 2 % 2, i % 2 + 1, 1, 1, i / 2 % 2) >= 0);
                } else {
                    CHECK.due("counts", press.counts(1, 4), 1);
                }
                break;
            case 2: {
                int l = i % 3;
                CHECK.holds("rank", i % 2 == 0 ? press.rank(l, l) >= 0 : press.tell(l, 400, 1_000_000, 4) > 0);
                break;
            }
            case 3:
                CHECK.holds("heap", press.heap(i % 2, 60, 1 + i % 60, 0) >= 0);
                break;
            case 4:
                CHECK.due("filling", press.filling(3, press.fillings(3) - 1 - i, 1), 0);
                break;
            case 5:
                CHECK.due("combine", press.combine(0, i % 4, i / 4 % 4), 1);
                break;
            case 6:
                CHECK.holds("core and join", i % 2 == 0 ? press.core(2, 0, 7) >= 0 : press.join(2, 7, 4) >= 0);
                break;
            case 7:
                CHECK.holds("lead", press.lead(4, 0, 0, 5) > 0);
                break;
            case 8:
                CHECK.holds("clash", press.clash(5, 6) >= 0);
                break;
            default:
                CHECK.holds("copy and undo", i % 3 == 2 ? press.undo() >= 0 : press.copy(6, 5) == 400);
                break;
        }
    }

    private static void measure(PartitionPress press, String text) throws IllegalAccessException {
        Map<Object, Boolean> seen = new IdentityHashMap<>();
        long elements = elements(press, seen);
        CHECK.holds(text + ": objects " + seen.size(), seen.size() <= MOST_OBJECTS);
        CHECK.holds(text + ": fields and elements " + elements, elements <= MOST_ELEMENTS);
    }

    private static long elements(Object object, Map<Object, Boolean> seen) throws IllegalAccessException {
        if (object == null || seen.put(object, true) != null) {
            return 0;
        }
        long many = 0;
        if (object.getClass().isArray()) {
            many = Array.getLength(object);
            for (int i = 0; i < Array.getLength(object) && !object.getClass().getComponentType().isPrimitive(); i++) {
                many += elements(Array.get(object, i), seen);
            }
            return many;
        }
        for (Field field : object.getClass().getDeclaredFields()) {
            if (Modifier.isStatic(field.getModifiers())) {
                continue;
            }
            many++;
            if (!field.getType().isPrimitive()) {
                field.setAccessible(true);
                many += elements(field.get(object), seen);
            }
        }
        return many;
    }
}
