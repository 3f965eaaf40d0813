import java.lang.reflect.Array;
import java.lang.reflect.Field;
import java.lang.reflect.Modifier;
import java.util.ArrayDeque;
import java.util.Collections;
import java.util.Deque;
import java.util.IdentityHashMap;
import java.util.Set;

/** All calls of one run live in one room: what an object takes of it, made anew at each of 512 calls. */
public final class RoomTests {
    private static final int CALLS = 512;
    private static final int MOST_OBJECTS = 600000;
    private static final int MOST_ELEMENTS = 7300000;

    private static int objects = 0;
    private static int elements = 0;

    public static void main(String[] args) throws IllegalAccessException {
        SmellMap x = new SmellMap();
        measure(x);
        int made = objects;
        Check.due("room for the objects of 512: " + objects + " each", objects * CALLS < MOST_OBJECTS, true);
        Check.due("room for the elements of 512: " + elements + " each", elements * CALLS < MOST_ELEMENTS, true);
        Set<Object> before = reached(x);
        Check.put(x, "l.....;l....#;l...##;s;sk1c4;sk2r2;d");
        x.text(0);
        Check.law(x, "y:!p=1&(f<9|k>2)?[p-f/2]*3;y:7");
        x.trail(1, 1);
        x.note(1, 1, 1, true);
        x.hours(24, 9);
        x.image();
        x.back();
        long answers = x.sure(0, 0) + x.most(0) + x.door(0) + x.led(0) + x.unlike(1, 2) + x.forged(0, 1) + x.found(0);
        Check.due("some answers", answers != 0, true);
        measure(x);
        Check.due("objects behind its use", objects, made);
        Set<Object> behind = reached(x);
        behind.removeAll(before);
        Check.due("objects made by its use", behind.size(), 0);
        Check.close("RoomTests");
    }

    private static void measure(Object root) throws IllegalAccessException {
        Set<Object> all = reached(root);
        objects = all.size();
        elements = 0;
        for (Object one : all) {
            if (one.getClass().isArray()) {
                elements += Array.getLength(one);
            } else {
                for (Field field : one.getClass().getDeclaredFields()) {
                    elements += Modifier.isStatic(field.getModifiers()) ? 0 : 1;
                }
            }
        }
    }

    private static Set<Object> reached(Object root) throws IllegalAccessException {
        Set<Object> all = Collections.newSetFromMap(new IdentityHashMap<>());
        Deque<Object> next = new ArrayDeque<>();
        next.add(root);
        while (!next.isEmpty()) {
            Object one = next.remove();
            if (all.add(one)) {
                parts(one, next);
            }
        }
        return all;
    }

    private static void parts(Object one, Deque<Object> next) throws IllegalAccessException {
        if (one instanceof Object[]) {
            for (Object part : (Object[]) one) {
                if (part != null) {
                    next.add(part);
                }
            }
        } else if (!one.getClass().isArray()) {
            for (Field field : one.getClass().getDeclaredFields()) {
                if (!Modifier.isStatic(field.getModifiers()) && !field.getType().isPrimitive()) {
                    field.setAccessible(true);
                    if (field.get(one) != null) {
                        next.add(field.get(one));
                    }
                }
            }
        }
    }
}
