import com.sun.management.ThreadMXBean;
import java.lang.management.ManagementFactory;
import java.lang.reflect.Array;
import java.lang.reflect.Field;
import java.lang.reflect.Modifier;
import java.util.ArrayDeque;
import java.util.Collections;
import java.util.Deque;
import java.util.IdentityHashMap;
import java.util.Set;

/**
 * The room that a run takes (600,000 objects and arrays, 7.3 million fields and elements in all): the rows are
 * made with the object, and no call makes more, so that a run takes what one object takes.
 */
public final class RoomTest {
    private static final int MOST_OBJECTS = 600;
    private static final int MOST_ELEMENTS = 20_000;
    private static final long MOST_BYTES_OF_AN_OBJECT = 400_000;
    private static final long MOST_BYTES_OF_CALLS = 20_000;

    private int objects = 0;
    private int elements = 0;

    public static void main(String[] args) throws IllegalAccessException {
        ThreadMXBean thread = (ThreadMXBean) ManagementFactory.getThreadMXBean();
        long id = Thread.currentThread().getId();
        dearCalls(new PracticeSheets());
        long start = thread.getThreadAllocatedBytes(id);
        PracticeSheets x = new PracticeSheets();
        long made = thread.getThreadAllocatedBytes(id);
        int calls = dearCalls(x);
        long called = thread.getThreadAllocatedBytes(id);
        Check.due("the object is small: " + (made - start) + " bytes", made - start <= MOST_BYTES_OF_AN_OBJECT);
        Check.due("calls make nothing: " + (called - made) + " bytes", called - made <= MOST_BYTES_OF_CALLS);
        Check.due("all calls of an object", calls >= 512);
        RoomTest room = new RoomTest();
        room.count(x);
        Check.due(room.objects + " objects and arrays", room.objects <= MOST_OBJECTS);
        Check.due(room.elements + " fields and elements", room.elements <= MOST_ELEMENTS);
        Check.end();
    }

    /** Counts all that hangs on an object, each thing once. */
    private void count(Object root) throws IllegalAccessException {
        Set<Object> seen = Collections.newSetFromMap(new IdentityHashMap<>());
        Deque<Object> open = new ArrayDeque<>();
        open.add(root);
        while (!open.isEmpty()) {
            Object thing = open.remove();
            if (!seen.add(thing)) {
                continue;
            }
            objects++;
            if (thing.getClass().isArray()) {
                countElements(thing, open);
            } else {
                countFields(thing, open);
            }
        }
    }

    private void countElements(Object array, Deque<Object> open) {
        elements += Array.getLength(array);
        if (array instanceof Object[]) {
            for (Object element : (Object[]) array) {
                if (element != null) {
                    open.add(element);
                }
            }
        }
    }

    private void countFields(Object thing, Deque<Object> open) throws IllegalAccessException {
        for (Field field : thing.getClass().getDeclaredFields()) {
            if (Modifier.isStatic(field.getModifiers())) {
                continue;
            }
            elements++;
            field.setAccessible(true);
            Object held = field.getType().isPrimitive() ? null : field.get(thing);
            if (held != null) {
                open.add(held);
            }
        }
    }

    private static int dearCalls(PracticeSheets x) {
        Check.write(x, "a!-b!-c!-d!-e!-f!-g!-h!-i!-j!-k!-l!-m!-n!-o!");
        x.write();
        String words = "abcdefghijklmno,bcdefghijklmno,cdefghijklmno,defghijklmno";
        Check.text(x, words);
        x.keep();
        int calls = 170;
        for (int i = 0; i < 30; i++) {
            x.addWords();
            x.sheetsTo(10, 0);
            x.doSheet(10);
            x.covers(10, 3);
            x.sheet(10, 3, 1);
            x.worst(true, 13);
            x.missing(true);
            x.word(0, 4);
            x.pass(1);
            x.restore();
            x.undo();
            x.removeWord(0);
            calls += 12;
        }
        return calls;
    }
}
