import java.lang.management.ManagementFactory;
import java.lang.reflect.Array;
import java.lang.reflect.Field;
import java.lang.reflect.Modifier;
import java.util.ArrayDeque;
import java.util.Collections;
import java.util.IdentityHashMap;
import java.util.Set;

/** What a run makes stays far within the room that all its calls share. */
public final class RoomTest {
    private static final int CALLS = 512;
    private static final int OBJECTS = 600000;
    private static final int FIELDS = 7300000;

    private static int objects = 0;
    private static int fields = 0;

    private static void countFrom(Object root) throws IllegalAccessException {
        Set<Object> seen = Collections.newSetFromMap(new IdentityHashMap<>());
        ArrayDeque<Object> open = new ArrayDeque<>();
        open.add(root);
        seen.add(root);
        while (!open.isEmpty()) {
            Object o = open.remove();
            objects++;
            if (o.getClass().isArray()) {
                fields += Array.getLength(o);
                for (int i = 0; i < Array.getLength(o) && !o.getClass().getComponentType().isPrimitive(); i++) {
                    follow(Array.get(o, i), seen, open);
                }
                continue;
            }
            for (Field f : o.getClass().getDeclaredFields()) {
                if (!Modifier.isStatic(f.getModifiers())) {
                    fields++;
                    f.setAccessible(true);
                    if (!f.getType().isPrimitive()) {
                        follow(f.get(o), seen, open);
                    }
                }
            }
        }
    }

    private static void follow(Object o, Set<Object> seen, ArrayDeque<Object> open) {
        if (o != null && seen.add(o)) {
            open.add(o);
        }
    }

    private static long everyCall(CapWallets x) {
        long sum = 0;
        for (int i = 0; i < 28; i++) {
            sum += x.tap(i % 4, i % 28, 30 * i, i % 10, i % 3 == 0);
            sum += x.claim(i / 2, 30 * i, 3) + x.whyNot(i, 500, 4) + x.settle(i % 4) + x.set(4, 10 * i);
            sum += x.tapOf(0, i % 8) + x.day(i % 4, i % 28, i % 4) + x.week(i % 4, i % 4, i % 7) + x.count(i % 10);
            sum += x.ledger(i % 4, i % 8, i % 2) + x.ifTapped(i % 4, i % 28, 30 * i, 3, false);
            sum += x.leaky() + x.leastCap() + (x.capShare() > 0.5 ? 1 : 0) + x.digest();
        }
        String text = "0d0:0+0;3d27:1439-9";
        for (int i = 0; i < text.length(); i++) {
            sum += x.append(text.charAt(i)) + x.firstError();
        }
        return sum + x.load() + x.undo() + x.clearBuffer() + x.remove(0);
    }

    private static long bytesOfCalls() {
        com.sun.management.ThreadMXBean bean = (com.sun.management.ThreadMXBean) ManagementFactory.getThreadMXBean();
        everyCall(new CapWallets());
        CapWallets x = new CapWallets();
        long thread = Thread.currentThread().getId();
        bean.getThreadAllocatedBytes(thread);
        long before = bean.getThreadAllocatedBytes(thread);
        everyCall(x);
        return bean.getThreadAllocatedBytes(thread) - before;
    }

    public static void main(String[] args) throws IllegalAccessException {
        countFrom(new CapWallets());
        long bytes = bytesOfCalls();
        System.out.println("a new object: " + objects + " objects and arrays, " + fields + " fields and elements; "
            + "every call: " + bytes + " bytes");
        // Even a run that makes a new object with each of its calls has room.
        if (objects * CALLS > OBJECTS / 2 || fields * CALLS > FIELDS / 2 || bytes > 1000) {
            System.out.println("that is too much");
            System.exit(1);
        }
    }
}
