import com.sun.management.ThreadMXBean;
import java.lang.management.ManagementFactory;
import java.lang.reflect.Array;
import java.lang.reflect.Field;
import java.lang.reflect.Modifier;
import java.util.ArrayDeque;
import java.util.Collections;
import java.util.Deque;
import java.util.IdentityHashMap;
import java.util.Set;

/** All calls of one run live in one room: an object is small, and its calls make none. */
public final class RoomTest {
    private static final Due DUE = new Due("RoomTest");
    private static final int MOST_OBJECTS = 300;
    private static final int MOST_PLACES = 8000;
    private static final int ROUNDS = 20;
    private static final String QUARTER = "rooms 5; door a 0 to 1 plain; door b 1 to 2 turning; door c 2 to 0 hinge price 2;"
        + "door d 0 to 2 hinge price 3; door e 3 to 4 plain holds 3; person p tenant at 0 errand 2 by 9;"
        + "person q cat at 3 errand 4 by 4; let (time < 20 or not (sort = 1)) and room < 9;";
    private static final long[] FED = pieces(QUARTER);
    private static final long[] FED_DAY = pieces("go p a; hour; go q e; hour; go p b;");

    public static void main(String[] args) throws ReflectiveOperationException {
        size();
        nothingIsMade();
        DUE.end();
    }

    private static void size() throws ReflectiveOperationException {
        Set<Object> seen = Collections.newSetFromMap(new IdentityHashMap<>());
        Deque<Object> left = new ArrayDeque<>();
        left.add(new OneSided());
        int places = 0;
        while (!left.isEmpty()) {
            Object one = left.remove();
            if (seen.add(one)) {
                places += one.getClass().isArray() ? elements(one, left) : fields(one, left);
            }
        }
        DUE.same(seen.size() + " objects and arrays", seen.size() <= MOST_OBJECTS, true);
        DUE.same(places + " fields and elements", places <= MOST_PLACES, true);
    }

    private static int elements(Object array, Deque<Object> left) {
        boolean ofObjects = !array.getClass().getComponentType().isPrimitive();
        for (int i = 0; ofObjects && i < Array.getLength(array); i++) {
            left.add(Array.get(array, i));
        }
        return Array.getLength(array);
    }

    private static int fields(Object one, Deque<Object> left) throws ReflectiveOperationException {
        int many = 0;
        for (Field field : one.getClass().getDeclaredFields()) {
            if (Modifier.isStatic(field.getModifiers())) {
                continue;
            }
            many++;
            if (!field.getType().isPrimitive()) {
                field.setAccessible(true);
                left.add(field.get(one));
            }
        }
        return many;
    }

    private static void nothingIsMade() {
        if (!(ManagementFactory.getThreadMXBean() instanceof ThreadMXBean bean) || !bean.isThreadAllocatedMemorySupported()) {
            System.out.println("RoomTest: what calls make can't be seen on this machine");
            return;
        }
        long thread = Thread.currentThread().getId();
        // The machine itself may make something in one round or another, but not in each.
        long least = Long.MAX_VALUE;
        for (int round = 0; round < ROUNDS; round++) {
            OneSided x = new OneSided();
            long before = bean.getThreadAllocatedBytes(thread);
            callAll(x);
            least = Math.min(least, bean.getThreadAllocatedBytes(thread) - before);
        }
        DUE.same("bytes made by calls", least, 0);
    }

    private static long[] pieces(String text) {
        long[] pieces = new long[(text.length() + 23) / 24 * 3];
        for (int i = 0; i < pieces.length; i++) {
            pieces[i] = Due.piece(text, i * 8);
        }
        return pieces;
    }

    private static void feed(OneSided x, long[] pieces) {
        for (int i = 0; i < pieces.length; i += 3) {
            x.feed(pieces[i], pieces[i + 1], pieces[i + 2]);
        }
    }

    private static void callAll(OneSided x) {
        feed(x, FED);
        x.quarter();
        feed(x, FED_DAY);
        x.day();
        x.mark(0, false);
        x.go(0, 0);
        x.hours(1);
        x.shut(1, true);
        x.undo();
        x.told(0, 2, true);
        for (int i = -1; i < 15; i++) {
            x.door(0, i);
            x.person(0, i);
            x.judged(i);
            x.soonest(0, i);
            x.errand(0, i);
            x.reach(i);
            x.ring(i, 0, 0);
            x.homeless(i, 0, 0);
            x.add(i, 0);
            x.turn(i, 0);
            x.cut(i, 1, 0, 0);
            x.crowd(i, 1, 23);
            x.found(i);
            x.rests(2, 3, i);
            x.chase(i, 1);
            x.run(i);
            x.years(7, 60, i);
            x.count(i);
            x.leads(i, 0, 0, 0);
        }
        x.stuck();
        x.mark(0, true);
    }
}
