import com.sun.management.ThreadMXBean;
import java.lang.management.ManagementFactory;
import java.lang.reflect.Array;
import java.lang.reflect.Field;
import java.lang.reflect.Modifier;
import java.util.Collections;
import java.util.IdentityHashMap;
import java.util.Set;

/** The room that an object and its calls take: little when it is made, none by calls. */
public final class RoomTest {
    private static long objects = 0, elements = 0;

    private static void measure(Object o, Set<Object> seen) throws Exception {
        if (o == null || !seen.add(o)) {
            return;
        }
        objects++;
        if (o.getClass().isArray()) {
            elements += Array.getLength(o);
            return;
        }
        for (Field f : o.getClass().getDeclaredFields()) {
            if (Modifier.isStatic(f.getModifiers())) {
                continue;
            }
            elements++;
            if (!f.getType().isPrimitive()) {
                f.setAccessible(true);
                measure(f.get(o), seen);
            }
        }
    }

    private static long dearest(AnyTwoBells x) {
        long sum = 0;
        String law = "h*b+p-q*(m+n)/3%(h+1)<b;!h|-b?p+q*(b+1234);h&b?1;(((h)))>0?2";
        for (int k = 0; k < law.length(); k++) {
            sum += x.feed(law.charAt(k));
        }
        sum += x.law() + x.lay() + x.line(0, 10016) + x.sum(1, 2) + x.tells(0) + x.gap(0) + x.bears() + x.kept() + x.odds(-1, 0);
        sum += x.greedy(-1) + x.least(-1) + x.alarm(0) + x.begins(1) + x.rest() + x.strokes(103) + x.alone(0, -1);
        for (int k = 0; k < 60; k++) {
            sum += x.strike(k % 3 + 10 * (k % 4), k % 2) + x.hear(1) + x.night(1) + x.row(k % 6, 0, 60) + x.act(0, 3, k) + x.body(k % 8);
            sum += x.shift(k % 6, 0, 0, 1, 5) + x.strikes(0, 0, 1, 4) + x.keep(1, 0) + x.taken(1, 0) + x.undo() + x.redo() + x.put(2, 0, k);
        }
        return sum + x.which() + x.set(0, 4) + x.mix(1, 1) + x.most(0, 15) + x.element(0, 0);
    }

    private static AnyTwoBells three() {
        AnyTwoBells x = new AnyTwoBells();
        x.set(0, 4);
        x.bell(1, 10);
        x.bell(3, 20);
        x.bell(1, 30);
        return x;
    }

    public static void main(String[] args) throws Exception {
        measure(new AnyTwoBells(), Collections.newSetFromMap(new IdentityHashMap<>()));
        System.out.println("made: " + objects + " objects and arrays, " + elements + " fields and elements");
        boolean fine = objects <= 100 && elements <= 5000;
        ThreadMXBean bean = (ThreadMXBean) ManagementFactory.getThreadMXBean();
        long id = Thread.currentThread().getId();
        dearest(three());
        AnyTwoBells x = three();
        bean.getThreadAllocatedBytes(id);
        long before = bean.getThreadAllocatedBytes(id);
        dearest(x);
        long bytes = bean.getThreadAllocatedBytes(id) - before;
        System.out.println("calls made " + bytes + " bytes of objects");
        if (!fine || bytes > 1000) {
            System.exit(1);
        }
    }
}
