import com.sun.management.ThreadMXBean;
import java.lang.management.ManagementFactory;
import java.lang.reflect.Array;
import java.lang.reflect.Field;
import java.lang.reflect.Modifier;
import java.util.ArrayDeque;
import java.util.Collections;
import java.util.Deque;
import java.util.IdentityHashMap;
import java.util.Set;

/** What the class makes: little in its constructor, nothing in its calls. */
public final class RaysOfShapesRoom {
    private static final int MOST_OBJECTS = 400;
    private static final int MOST_ELEMENTS = 16000;
    private static final long MOST_BYTES_OF_CALLS = 4096;

    private static int wrong = 0;

    private static void atMost(String what, long is, long most) {
        if (is > most) {
            wrong++;
            System.out.println(what + ": " + is + ", more than " + most);
        }
    }

    private static void lookAtNewObject() throws IllegalAccessException {
        Set<Object> seen = Collections.newSetFromMap(new IdentityHashMap<>());
        Deque<Object> due = new ArrayDeque<>();
        due.add(new RaysOfShapes());
        long elements = 0;
        while (!due.isEmpty()) {
            Object o = due.pop();
            if (!seen.add(o)) {
                continue;
            }
            if (o.getClass().isArray()) {
                elements += Array.getLength(o);
                for (int i = 0; o instanceof Object[] && i < Array.getLength(o); i++) {
                    due.add(Array.get(o, i));
                }
                continue;
            }
            for (Field field : o.getClass().getDeclaredFields()) {
                if (!Modifier.isStatic(field.getModifiers())) {
                    elements++;
                    field.setAccessible(true);
                    if (!field.getType().isPrimitive()) {
                        due.add(field.get(o));
                    }
                }
            }
        }
        atMost("objects and arrays of a new object", seen.size(), MOST_OBJECTS);
        atMost("fields and elements of a new object", elements, MOST_ELEMENTS);
    }

    private static int read(RaysOfShapes x, byte[] text) {
        for (int i = 0; i < text.length; i++) {
            x.feed(text[i]);
        }
        return x.shape();
    }

    /** Every call of the face, and the dear ones with shapes that are DEEP. */
    private static long callAll(RaysOfShapes x, byte[] text) {
        long sum = x.ball(7, 7, 7, 5) + x.box(3, 3, 3, 9, 9, 9) + x.half(1, 1, 1, 20) + read(x, text);
        sum += x.pair(10, 3, 0) + x.blend(0, 1, 9, 4) + x.shift(1, 1, 2, 3) + x.change(13, 0, 1, 7)
            + x.change(14, 0, 1, 7) + x.change(15, 2, 0, 1) + x.grown(16, 1, 1, 2) + x.grown(17, 0, 4, 3);
        int shapes = x.status(0);
        for (int s = 0; s < shapes; s++) {
            sum += x.count(s, 0) + x.count(s, 1) + x.placeOf(s, 9) + x.slice(s, 1, 4) + x.reach(s, 2, 1) + x.in(s, 5)
                + x.ray(s, 0, 1, 1, 1, 2) + x.skin(s) + x.pieces(s, 1) + x.both(s, 0) + x.differ(s, 1) + x.even(s, 2)
                + x.apart(s, 0, 1) + x.enough(s, 0, 9, 2000) + x.shapeOf(s, 4) + x.worth(s, 1, 2, 3, 1)
                + x.bounds(s, 0, 4095, 2) + x.carve(s, s & 3) + x.off(s) + x.show(0, s);
            for (int kind = 0; kind < 18; kind++) {
                sum += x.says(0, kind);
            }
        }
        sum += x.row(1, 3, 10) + x.row(2, 3, 10) + x.set(1, 1, 1) + x.copy(1, 2, 0, 1, 4) + x.element(2, 2) + x.holds(1)
            + x.kinds(0, 1, 1, 5) + x.judge(0, 1, 5) + x.image() + x.days(60) + x.undo() + x.block(1) + x.block(2)
            + x.has(4) + x.seed(5) + x.back() + x.wipe() + x.drop() + x.status(3) + x.feed(-1);
        return sum;
    }

    private static void lookAtCalls() {
        StringBuilder deep = new StringBuilder("ball 8 8 8 6");
        for (int i = 0; i < 6; i++) {
            deep.insert(0, i % 3 == 0 ? "blend 9 4(half 1 1 1 9," : "grown 1 7(").append(')');
        }
        byte[] text = new byte[deep.length()];
        for (int i = 0; i < text.length; i++) {
            text[i] = (byte) deep.charAt(i);
        }
        ThreadMXBean beans = (ThreadMXBean) ManagementFactory.getThreadMXBean();
        long warm = callAll(new RaysOfShapes(), text);
        RaysOfShapes x = new RaysOfShapes();
        beans.getCurrentThreadAllocatedBytes();
        long before = beans.getCurrentThreadAllocatedBytes();
        long again = callAll(x, text);
        long after = beans.getCurrentThreadAllocatedBytes();
        if (again != warm) {
            wrong++;
            System.out.println("the same calls gave other answers");
        }
        atMost("bytes that calls made", after - before, MOST_BYTES_OF_CALLS);
    }

    public static void main(String[] args) throws IllegalAccessException {
        lookAtNewObject();
        lookAtCalls();
        System.out.println(wrong == 0 ? "there is room enough" : wrong + " are too many");
        System.exit(wrong == 0 ? 0 : 1);
    }
}
