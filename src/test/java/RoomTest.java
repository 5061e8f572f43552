import java.lang.reflect.Array;
import java.lang.reflect.Field;
import java.lang.reflect.Modifier;
import java.util.ArrayDeque;
import java.util.IdentityHashMap;
import java.util.Map;

/** What an object holds stays small, however it is used: a run has ONE room. */
public final class RoomTest {
    private static int objects;
    private static int elements;

    public static void main(String[] args) throws Exception {
        measure(new BagRiders());
        int objectsAtFirst = objects;
        Due.isTrue("objects of a new one: " + objects, objects < 300);
        Due.isTrue("elements of a new one: " + elements, elements < 5000);
        BagRiders x = new BagRiders();
        for (int i = 0; i < 512; i++) {
            x.kitchen(0, 1);
            x.order(0, 0, 10, 0);
            x.rider(0, 0);
            x.feed(0x642b6432, 4);
            x.text();
            x.image();
            x.night(0, 0);
            x.offerAll();
            x.undo();
        }
        measure(x);
        // 8 TEXTS, each with its row of steps, and no more
        Due.isTrue("objects of a used one: " + objects, objects <= objectsAtFirst + 16);
        Due.end();
    }

    private static void measure(Object root) throws Exception {
        Map<Object, Boolean> seen = new IdentityHashMap<>();
        ArrayDeque<Object> open = new ArrayDeque<>();
        open.add(root);
        objects = 0;
        elements = 0;
        while (!open.isEmpty()) {
            Object o = open.poll();
            if (seen.put(o, true) != null) {
                continue;
            }
            objects++;
            if (o.getClass().isArray()) {
                elements += Array.getLength(o);
                for (int i = 0; i < Array.getLength(o); i++) {
                    follow(open, Array.get(o, i), o.getClass().getComponentType());
                }
                continue;
            }
            for (Field field : o.getClass().getDeclaredFields()) {
                if (!Modifier.isStatic(field.getModifiers())) {
                    elements++;
                    field.setAccessible(true);
                    follow(open, field.get(o), field.getType());
                }
            }
        }
    }

    private static void follow(ArrayDeque<Object> open, Object held, Class<?> type) {
        if (held != null && !type.isPrimitive()) {
            open.add(held);
        }
    }
}
