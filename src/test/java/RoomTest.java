import com.sun.management.ThreadMXBean;
import java.lang.management.ManagementFactory;
import java.lang.reflect.Array;
import java.lang.reflect.Field;
import java.lang.reflect.Modifier;
import java.util.ArrayDeque;
import java.util.Collections;
import java.util.Deque;
import java.util.IdentityHashMap;
import java.util.Random;
import java.util.Set;

/** What an object takes of the room: its rows are made once, and calls make nothing more. */
final class RoomTest {
    private static final Due due = new Due("RoomTest");

    private static long elements;

    public static void main(String[] args) throws IllegalAccessException {
        LineLeases x = new LineLeases();
        long objects = objectsOf(x);
        System.out.println("RoomTest: " + objects + " objects and arrays, " + elements + " fields and elements");
        due.holds("few objects: " + objects, objects < 2000);
        due.holds("few fields and elements: " + elements, elements < 50000);
        run(new LineLeases(), 1);
        long made = run(x, 2);
        due.same("objects after 512 calls", objects, objectsOf(x));
        due.holds("calls make nothing: " + made + " bytes", made < 20000);
        due.end();
    }

    private static long objectsOf(Object root) throws IllegalAccessException {
        elements = 0;
        Set<Object> seen = Collections.newSetFromMap(new IdentityHashMap<>());
        Deque<Object> open = new ArrayDeque<>();
        open.add(root);
        seen.add(root);
        while (!open.isEmpty()) {
            Object o = open.remove();
            if (o.getClass().isArray()) {
                elements += Array.getLength(o);
                for (int i = 0; o instanceof Object[] && i < Array.getLength(o); i++) {
                    note(Array.get(o, i), seen, open);
                }
            } else {
                noteFields(o, seen, open);
            }
        }
        return seen.size();
    }

    private static void noteFields(Object o, Set<Object> seen, Deque<Object> open) throws IllegalAccessException {
        for (Field f : o.getClass().getDeclaredFields()) {
            if (!Modifier.isStatic(f.getModifiers())) {
                elements++;
                f.setAccessible(true);
                if (!f.getType().isPrimitive()) {
                    note(f.get(o), seen, open);
                }
            }
        }
    }

    private static void note(Object o, Set<Object> seen, Deque<Object> open) {
        if (o != null && seen.add(o)) {
            open.add(o);
        }
    }

    /** 512 calls of all kinds that throw nothing; tells the bytes that they made. */
    private static long run(LineLeases x, int seed) {
        Random random = new Random(seed);
        StringBuilder text = new StringBuilder("lines;");
        text.append("handler 60 2;".repeat(6)).append("line 3 4 90 0 1 2;").append("line 3 4 90 3 4;".repeat(7));
        text.append("patience 2;fine ((((left*2+1)*held-line)/2+waited)*3)/4;");
        for (int i = 0; i < 20; i++) {
            text.append("raise ").append(i % 8).append(' ').append(i).append(" 9;");
        }
        ThreadMXBean threads = (ThreadMXBean) ManagementFactory.getThreadMXBean();
        long made = 0;
        for (int i = 0; i < 450; i++) {
            if (i % 150 == 0) {
                x.load(0);
                due.same("requests of the text", 20, Due.load(x, text.toString()));
            }
            int handler = random.nextInt(6);
            int line = random.nextInt(8);
            int kind = random.nextInt(13);
            long before = threads.getCurrentThreadAllocatedBytes();
            call(x, kind, handler, line);
            made += threads.getCurrentThreadAllocatedBytes() - before;
        }
        return made;
    }

    private static long call(LineLeases x, int kind, int handler, int line) {
        switch (kind) {
            case 0:
                return x.pass(3);
            case 1:
                return x.state(3) < 60 ? x.raise(line, 20) : 0;
            case 2:
                return x.lease(handler, line);
            case 3:
                return x.release(handler, line);
            case 4:
                return x.fund(handler, 7);
            case 5:
                return x.fund(handler, 1) + x.undo();
            case 6:
                return x.checksum();
            case 7:
                return x.endsAt(0);
            case 8:
                return x.bankruptIn(handler);
            case 9:
                return x.finesIn(1100);
            case 10:
                return x.advise(line);
            case 11:
                return x.calm(line);
            default:
                return x.append(line, 0, 0, 0, 0) < 0 ? x.load(700) : 0;
        }
    }
}
