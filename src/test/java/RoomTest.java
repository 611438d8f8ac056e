import java.lang.reflect.Array;
import java.lang.reflect.Field;
import java.lang.reflect.Modifier;
import java.util.ArrayDeque;
import java.util.Collections;
import java.util.IdentityHashMap;
import java.util.Set;

/** What an object holds: some fifty objects and 7,500 fields and elements, and no more after many calls. */
public final class RoomTest {
    public static void main(String[] args) throws Exception {
        ValueDays x = new ValueDays();
        long[] first = held(x);
        System.out.println("objects " + first[0] + ", fields and elements " + first[1]);
        Check.due("many objects", first[0] > 60 ? 1 : 0, 0);
        Check.due("many elements", first[1] > 7500 ? 1 : 0, 0);
        Check.tell(x, "book days 40 periods 8 compound 1;tier 3600;pay 0 50000;close;close;draw 3 9;rerun;");
        for (int i = 0; i < 400; i++) {
            x.pay(i % 320, 5);
            x.plan(0, 8);
            x.compounded(1 + i % 4);
            x.image(i % 3);
            x.left(0);
            x.undo();
        }
        long[] then = held(x);
        Check.due("objects", then[0], first[0]);
        Check.due("elements", then[1], first[1]);
        Check.finish("RoomTest");
    }

    private static long[] held(Object root) throws Exception {
        Set<Object> met = Collections.newSetFromMap(new IdentityHashMap<>());
        ArrayDeque<Object> open = new ArrayDeque<>();
        open.add(root);
        met.add(root);
        long cells = 0;
        while (!open.isEmpty()) {
            Object o = open.poll();
            if (o.getClass().isArray()) {
                cells += Array.getLength(o);
                if (!o.getClass().getComponentType().isPrimitive()) {
                    for (Object inside : (Object[]) o) {
                        meet(inside, met, open);
                    }
                }
                continue;
            }
            for (Field f : o.getClass().getDeclaredFields()) {
                if (!Modifier.isStatic(f.getModifiers())) {
                    cells++;
                    f.setAccessible(true);
                    if (!f.getType().isPrimitive()) {
                        meet(f.get(o), met, open);
                    }
                }
            }
        }
        return new long[] {met.size(), cells};
    }

    private static void meet(Object o, Set<Object> met, ArrayDeque<Object> open) {
        if (o != null && met.add(o)) {
            open.add(o);
        }
    }
}
