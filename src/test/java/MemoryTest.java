import java.lang.management.ManagementFactory;
import java.lang.reflect.Array;
import java.lang.reflect.Field;
import java.lang.reflect.Modifier;
import java.util.IdentityHashMap;
import java.util.Map;

/** All calls of a run share one room of memory: an object is small beside it, and no call makes objects. */
public final class MemoryTest {
    private static final Checks CHECKS = new Checks("MemoryTest");
    private static final int MOST_ELEMENTS = 40_000;
    // What the measuring itself may make; the rows of one search are much larger.
    private static final long MOST_BYTES = 20_000;

    public static void main(String[] args) throws IllegalAccessException {
        LockQuest quest = new LockQuest();
        callAll(quest, 1);
        long before = allocated();
        callAll(quest, 40);
        long bytes = allocated() - before;
        CHECKS.due("480 calls make no objects (" + bytes + " bytes)", bytes <= MOST_BYTES, true);
        int elements = elementsIn(quest, new IdentityHashMap<>());
        CHECKS.due("an object is small (" + elements + " fields and elements)", elements <= MOST_ELEMENTS, true);
        CHECKS.end();
    }

    private static void callAll(LockQuest quest, int rounds) {
        for (int n = 0; n < rounds; n++) {
            quest.make(n, 12, 3, 3, 2);
            quest.take();
            quest.walk(0);
            quest.toggle();
            quest.having();
            quest.room(n % 12, 7);
            quest.behind(n % 12, 0);
            quest.steps();
            quest.hint();
            quest.situations();
            quest.safe();
            quest.restart();
        }
    }

    private static long allocated() {
        return ((com.sun.management.ThreadMXBean) ManagementFactory.getThreadMXBean()).getCurrentThreadAllocatedBytes();
    }

    private static int elementsIn(Object part, Map<Object, Boolean> seen) throws IllegalAccessException {
        if (part == null || seen.put(part, true) != null) {
            return 0;
        }
        if (part.getClass().isArray()) {
            return elementsInArray(part, seen);
        }
        int sum = 0;
        for (Field f : part.getClass().getDeclaredFields()) {
            if (!Modifier.isStatic(f.getModifiers())) {
                f.setAccessible(true);
                sum += 1 + (f.getType().isPrimitive() ? 0 : elementsIn(f.get(part), seen));
            }
        }
        return sum;
    }

    private static int elementsInArray(Object array, Map<Object, Boolean> seen) throws IllegalAccessException {
        int sum = Array.getLength(array);
        if (!array.getClass().getComponentType().isPrimitive()) {
            for (int i = 0; i < Array.getLength(array); i++) {
                sum += elementsIn(Array.get(array, i), seen);
            }
        }
        return sum;
    }
}
