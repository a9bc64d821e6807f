import java.lang.reflect.Array;
import java.lang.reflect.Field;
import java.lang.reflect.Modifier;
import java.util.ArrayDeque;
import java.util.Collections;
import java.util.Deque;
import java.util.IdentityHashMap;
import java.util.Set;

/** The room that an object takes: what is in it is counted, and is made by the constructor alone. */
public final class RoomTest {
    private static final int CALLS = 512;
    private static final int MOST_OBJECTS = 600_000;
    private static final int MOST_ELEMENTS = 7_300_000;

    public static void main(String[] args) {
        Check.test("room: a constructor for each call of a run has room", RoomTest::constructors);
        Check.test("room: no call makes anything that is kept", RoomTest::calls);
        Check.end();
    }

    private static void constructors() {
        Set<Object> all = parts(new JournalDisk());
        long elements = 0;
        for (Object part : all) {
            elements += elements(part);
        }
        Check.same(all.size() + " objects, has room ", (long) all.size() * CALLS <= MOST_OBJECTS, true);
        Check.same(elements + " elements, has room ", elements * CALLS <= MOST_ELEMENTS, true);
        Check.is(all.size() > 1 && elements > all.size(), true);
    }

    private static void calls() {
        JournalDisk disk = new JournalDisk();
        Set<Object> before = parts(disk);
        Scenes.USUAL.play(disk);
        disk.digest();
        disk.follow(2, 40);
        Check.is(disk.rename(0, 10, 2, 60), 1);
        Check.is(disk.write(1, 64, 7), 71);
        disk.setQuota(1, 0);
        Check.is(disk.makeFile(2, 61), -8);
        Check.is(disk.cloneFile(0, 62, 1), 7);
        Check.is(parts(disk).equals(before), true);
        Check.is(disk.flush(), false);
        disk.fail(3, 1, 1);
        Check.is(disk.mount(), -9);
        Check.is(disk.mount(), 1);
        Check.is(parts(disk).equals(before), true);
    }

    /** The object, and all objects and arrays that it knows, each once. */
    private static Set<Object> parts(JournalDisk disk) {
        Set<Object> all = Collections.newSetFromMap(new IdentityHashMap<>());
        Deque<Object> open = new ArrayDeque<>();
        open.add(disk);
        while (!open.isEmpty()) {
            Object part = open.pop();
            if (!all.add(part)) {
                continue;
            }
            if (part instanceof Object[] row) {
                Collections.addAll(open, row);
            }
            for (Field f : fields(part)) {
                if (!f.getType().isPrimitive() && !Modifier.isStatic(f.getModifiers())) {
                    open.add(valueOf(f, part));
                }
            }
        }
        return all;
    }

    private static int elements(Object part) {
        if (part.getClass().isArray()) {
            return Array.getLength(part);
        }
        int count = 0;
        for (Field f : fields(part)) {
            count += Modifier.isStatic(f.getModifiers()) ? 0 : 1;
        }
        return count;
    }

    private static Field[] fields(Object part) {
        return part.getClass().getDeclaredFields();
    }

    private static Object valueOf(Field field, Object part) {
        try {
            field.setAccessible(true);
            return field.get(part);
        } catch (IllegalAccessException e) {
            throw new IllegalStateException(e);
        }
    }
}
