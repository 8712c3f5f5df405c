import java.lang.management.ManagementFactory;
import java.lang.reflect.Array;
import java.lang.reflect.Field;
import java.lang.reflect.Modifier;
import java.util.ArrayDeque;
import java.util.Collections;
import java.util.Deque;
import java.util.IdentityHashMap;
import java.util.LinkedHashMap;
import java.util.Map;
import java.util.Set;

/**
 * All calls of one run live in one room of some 600,000 objects and 7.3 million fields and elements: what a new object
 * takes of it, what each call makes, and that a long run does not grow.
 */
public final class RoomTest {
    private static final int TIMES = 50;
    // Of one call: the machine's own measuring makes a little, too, which is shared by TIMES calls.
    private static final long SLACK = 16;

    public static void main(String[] args) throws IllegalAccessException {
        newObject();
        longRun();
        callsMakeNothing();
        lawMakesAsMuchAsItsText();
        Check.finish();
    }

    private static void newObject() throws IllegalAccessException {
        int[] size = sizeOf(new BarrelNight());
        Check.due("a new object has less than 400 objects: " + size[0], size[0] < 400, true);
        Check.due("a new object has less than 8,000 fields and elements: " + size[1], size[1] < 8000, true);
    }

    private static void longRun() throws IllegalAccessException {
        BarrelNight x = Check.everything();
        int[] before = sizeOf(x);
        for (int i = 0; i < 100; i++) {
            x.come(0, 1);
            x.put(0, i % 2 == 0);
            x.seconds(1);
            x.image();
        }
        int[] behind = sizeOf(x);
        Check.due("objects behind 400 calls", behind[0], before[0]);
        Check.due("fields and elements behind 400 calls", behind[1], before[1]);
    }

    private static void callsMakeNothing() {
        BarrelNight x = Check.everything();
        Map<String, Runnable> calls = new LinkedHashMap<>();
        calls.put("feed and end", () -> { x.feed(1, 2, 3, 4, 5); x.end(0); });
        calls.put("town", () -> { x.image(); x.town(); x.back(); });
        calls.put("fault", x::fault);
        calls.put("yard", () -> x.yard(1, 8));
        calls.put("lane", () -> x.lane(1, 2));
        calls.put("barrel", () -> x.barrel(1, 7));
        calls.put("step", () -> x.step(0, 1));
        calls.put("bearer", () -> x.bearer(0, true));
        calls.put("delay", () -> x.delay(1, 1));
        calls.put("seconds", () -> x.seconds(3));
        calls.put("put", () -> x.put(0, true));
        calls.put("come", () -> x.come(0, 1));
        calls.put("door", () -> x.door(0, 1));
        calls.put("trial", () -> x.trial(100));
        calls.put("opens", () -> x.opens(0));
        calls.put("mends", () -> x.mends(5));
        calls.put("meet", () -> x.meet(0, 1));
        calls.put("starts", () -> x.starts(0, 3));
        calls.put("changes", () -> x.changes(0, 0));
        calls.put("last", () -> x.last(0, 5));
        calls.put("ambulance", () -> x.ambulance(0, 2));
        calls.put("keep", x::keep);
        calls.put("sparks", () -> x.sparks(true));
        calls.put("let", () -> x.let(-1));
        calls.put("span", () -> x.span(true));
        calls.put("undo", x::undo);
        calls.put("image and back", () -> { x.image(); x.back(); });
        calls.put("count", () -> x.count(9));
        calls.forEach((name, call) -> Check.due(name + " makes nothing: " + made(call), made(call) <= SLACK, true));
    }

    private static void lawMakesAsMuchAsItsText() {
        BarrelNight x = new BarrelNight();
        Runnable call = () -> {
            x.feed(0x6261636b, 0x20392020, 0x20202020, 0x20202020, 0x20202020);
            x.law();
        };
        Check.due("law makes a row as long as the text: " + made(call), made(call) < 200, true);
    }

    /** Bytes that one call makes. */
    private static long made(Runnable call) {
        com.sun.management.ThreadMXBean bean = (com.sun.management.ThreadMXBean) ManagementFactory.getThreadMXBean();
        call.run();
        bean.getCurrentThreadAllocatedBytes();
        long before = bean.getCurrentThreadAllocatedBytes();
        for (int i = 0; i < TIMES; i++) {
            call.run();
        }
        return (bean.getCurrentThreadAllocatedBytes() - before) / TIMES;
    }

    /** Objects and arrays, and their fields and elements. */
    private static int[] sizeOf(Object root) throws IllegalAccessException {
        Set<Object> seen = Collections.newSetFromMap(new IdentityHashMap<>());
        Deque<Object> todo = new ArrayDeque<>();
        add(root, seen, todo);
        int places = 0;
        while (!todo.isEmpty()) {
            Object one = todo.pop();
            if (one.getClass().isArray()) {
                places += Array.getLength(one);
                for (int i = 0; one instanceof Object[] && i < Array.getLength(one); i++) {
                    add(Array.get(one, i), seen, todo);
                }
                continue;
            }
            for (Field f : one.getClass().getDeclaredFields()) {
                if (!Modifier.isStatic(f.getModifiers())) {
                    places++;
                    f.setAccessible(true);
                    if (!f.getType().isPrimitive()) {
                        add(f.get(one), seen, todo);
                    }
                }
            }
        }
        return new int[] {seen.size(), places};
    }

    private static void add(Object one, Set<Object> seen, Deque<Object> todo) {
        if (one != null && seen.add(one)) {
            todo.push(one);
        }
    }
}
