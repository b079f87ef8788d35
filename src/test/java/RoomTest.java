import java.lang.management.ManagementFactory;
import java.lang.reflect.Array;
import java.lang.reflect.Field;
import java.lang.reflect.Modifier;
import java.util.ArrayDeque;
import java.util.Collections;
import java.util.Deque;
import java.util.IdentityHashMap;
import java.util.Set;

/**
 * The room that an object takes: all calls of a run live in one of some 600,000 objects and 7.3
 * million fields and elements, so what one object takes is held far below it, and calls add nothing.
 */
public final class RoomTest extends Checks {
    private static final int MOST_OBJECTS = 100;
    private static final int MOST_ELEMENTS = 5000;
    private static final int ROUNDS = 50;
    /** Far below one small object a call. */
    private static final long MOST_BYTES = 8L * ROUNDS;

    private static void addReached(Object o, Set<Object> reached, Deque<Object> open) {
        if (o != null && reached.add(o)) {
            open.add(o);
        }
    }

    /** All objects and arrays that belong to one, itself with them. */
    private static Set<Object> reach(Object start) throws IllegalAccessException {
        Set<Object> reached = Collections.newSetFromMap(new IdentityHashMap<>());
        Deque<Object> open = new ArrayDeque<>();
        addReached(start, reached, open);
        while (!open.isEmpty()) {
            Object o = open.remove();
            if (o instanceof Object[] array) {
                for (Object element : array) {
                    addReached(element, reached, open);
                }
            } else if (!o.getClass().isArray()) {
                for (Field f : o.getClass().getDeclaredFields()) {
                    if (!Modifier.isStatic(f.getModifiers()) && !f.getType().isPrimitive()) {
                        f.setAccessible(true);
                        addReached(f.get(o), reached, open);
                    }
                }
            }
        }
        return reached;
    }

    private static int elementsOf(Set<Object> objects) {
        int sum = 0;
        for (Object o : objects) {
            if (o.getClass().isArray()) {
                sum += Array.getLength(o);
            } else {
                for (Field f : o.getClass().getDeclaredFields()) {
                    sum += Modifier.isStatic(f.getModifiers()) ? 0 : 1;
                }
            }
        }
        return sum;
    }

    private static void fill(OwnerRows x) {
        for (int i = 0; i < 16; i++) {
            x.thing();
        }
        for (int i = 0; i < 120; i++) {
            x.owner(i % 2, i % 32, 7 * i, 7 * i + 3, i % 5);
        }
        for (int i = 0; i < 200; i++) {
            x.correct(i % 120, i % 3, i % 32, 5 + i % 7);
        }
        for (int i = 0; i < 10; i++) {
            x.danger(i - 1, 10 * i, 10 * i + 1);
        }
        for (int i = 0; i < 30; i++) {
            x.claim(i % 16, i % 32, i);
        }
        for (int i = 0; i < 40; i++) {
            x.licence(i % 16, i % 8, i, i + 1);
        }
        for (int i = 0; i < 60; i++) {
            x.worth(i % 16, i, i % 8, i);
        }
    }

    /** Each call that asks, and each that tells without taking room; answers are added up unboxed. */
    private static long ask(OwnerRows x, int day) {
        x.share(day, 1, 1 + day);
        x.tell(0, 1, day);
        x.tell(1, 1, 2);
        x.tell(2, 2, day);
        long sum = x.known(3, 1, day) + x.gap(0, 3, 1, day) + x.held(1, 4000, day, 0) + x.asked(0, 1, day);
        sum += x.rights(1, 1, day) + x.seen(1, 3, 2, day) + x.value(1, day, 1) + x.chain(0, day, OwnerRows.NONE);
        sum += x.doubt(day, true) ? 1 : 0;
        sum += x.seal(day, 2, true) ? 1 : 0;
        sum += x.stops(1, day) ? 1 : 0;
        sum += x.licensed(1, 1, day) ? 1 : 0;
        return sum;
    }

    private static long askAll(OwnerRows x) {
        long sum = 0;
        for (int day = 0; day < ROUNDS; day++) {
            sum += ask(x, day);
        }
        return sum;
    }

    private static void checkReach() {
        try {
            OwnerRows x = new OwnerRows();
            Set<Object> before = reach(x);
            int elements = elementsOf(before);
            System.out.println("an object takes " + before.size() + " objects and arrays, " + elements + " fields and elements");
            is(true, before.size() <= MOST_OBJECTS);
            is(true, elements <= MOST_ELEMENTS);
            fill(x);
            askAll(x);
            Set<Object> after = reach(x);
            is(true, after.size() == before.size() && after.containsAll(before));
        } catch (IllegalAccessException e) {
            report("can't be looked into: " + e);
        }
    }

    private static void checkCalls() {
        OwnerRows x = new OwnerRows();
        fill(x);
        com.sun.management.ThreadMXBean bean = (com.sun.management.ThreadMXBean) ManagementFactory.getThreadMXBean();
        long id = Thread.currentThread().getId();
        long sum = askAll(x);
        bean.getThreadAllocatedBytes(id);
        long before = bean.getThreadAllocatedBytes(id);
        long again = askAll(x);
        long made = bean.getThreadAllocatedBytes(id) - before;
        is(true, sum != 0 && again != 0);
        if (made > MOST_BYTES) {
            report(made + " bytes were made by calls");
        }
    }

    public static void main(String[] args) {
        part("an object's room", RoomTest::checkReach);
        part("calls that throw nothing make nothing", RoomTest::checkCalls);
        end();
    }
}
