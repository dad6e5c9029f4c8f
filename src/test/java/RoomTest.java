import com.sun.management.ThreadMXBean;
import java.lang.management.ManagementFactory;
import java.lang.reflect.Array;
import java.lang.reflect.Field;
import java.lang.reflect.Modifier;
import java.util.Collections;
import java.util.IdentityHashMap;
import java.util.Set;

/** The room of a run: what an object holds when it is made, and that calls on it make nothing more. */
public final class RoomTest {
    private static final int MOST_OBJECTS = 250;
    private static final int MOST_ELEMENTS = 8000;
    private static final int BYTES_OF_NOTHING = 4096;

    private static int objects = 0;
    private static int elements = 0;

    public static void main(String[] args) throws IllegalAccessException {
        count(new RiverText(), Collections.newSetFromMap(new IdentityHashMap<>()));
        System.out.println(objects + " objects, " + elements + " fields and elements");
        Due.yes("few objects", objects <= MOST_OBJECTS);
        Due.yes("few elements", elements <= MOST_ELEMENTS);
        RiverText x = Due.in(Due.LAND);
        Due.sentence(x, "sense and not (reads fish or words > 3)");
        callAll(x);
        ThreadMXBean bean = (ThreadMXBean) ManagementFactory.getThreadMXBean();
        long before = bean.getCurrentThreadAllocatedBytes();
        for (int i = 0; i < 9; i++) {
            callAll(x);
        }
        Due.yes("calls make nothing", bean.getCurrentThreadAllocatedBytes() - before < BYTES_OF_NOTHING);
        Due.finish();
    }

    private static void callAll(RiverText x) {
        x.feed(0x64617920, 0x333b7461, 0x20726561, 0x6473206e, 0x6f6e653b); // day 3;ta reads none;
        x.daybook(0);
        x.feed(0x64617920, 0x333b7461, 0x20726561, 0x6473206e, 0x6f6e653b);
        x.daybook(1);
        x.feed(0x73656e73, 0x65206f72, 0x20617420, 0x3c203320, 0x20202020); // sense or at < 3
        x.sentence();
        x.feed(0x04040404, 0x04040404, 0x04040404, 0x04040404, 0x04040404);
        x.end(9);
        x.saying(0);
        x.feed(0, 0, 0, 0, 0);
        x.end(3);
        x.wish(0);
        x.feed(0, 0, 0, 0, 0);
        x.most();
        x.days(3);
        x.drawn(3, 7);
        x.wake(0, 0);
        x.wake(0, 1);
        x.stone(0, 0, 1);
        x.undo();
        x.rests(20, RiverText.NONE);
        x.odds(2, 20, 4);
        x.liked(2, 3, 9);
        x.when(2, 4, 9);
        x.clashes(9);
        x.unlike(0, 1, 2);
        x.said(RiverText.NONE);
        x.comes(0, 1);
        x.image(0);
        x.restore(0);
    }

    private static void count(Object object, Set<Object> seen) throws IllegalAccessException {
        if (object == null || !seen.add(object)) {
            return;
        }
        objects++;
        if (object.getClass().isArray()) {
            elements += Array.getLength(object);
            for (int i = 0; i < Array.getLength(object) && object instanceof Object[]; i++) {
                count(Array.get(object, i), seen);
            }
            return;
        }
        for (Field field : object.getClass().getDeclaredFields()) {
            if (!Modifier.isStatic(field.getModifiers())) {
                elements++;
                field.setAccessible(true);
                if (!field.getType().isPrimitive()) {
                    count(field.get(object), seen);
                }
            }
        }
    }
}
