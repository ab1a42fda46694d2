import java.lang.reflect.Array;
import java.lang.reflect.Field;
import java.lang.reflect.Modifier;
import java.util.Collections;
import java.util.IdentityHashMap;
import java.util.Random;
import java.util.Set;

/** How much an object of the class holds: few things, and after many calls the same ones. */
public final class RoomTest {
    private static final int MOST_THINGS = 1000;
    private static final int MOST_ELEMENTS = 60000;

    public static void main(String[] args) throws IllegalAccessException {
        for (int size : new int[] {1, 8, 32}) {
            SweptGrants m = new SweptGrants(size);
            Set<Object> before = held(m);
            Check.due("things", before.size() <= MOST_THINGS, true);
            Check.due("elements", elements(before) <= MOST_ELEMENTS, true);
            for (int seed = 0; seed < 5; seed++) {
                Image.boot(m, new Programs(new Random(seed)).image().bytes());
                m.input(seed);
                m.run(2000);
                m.fetch();
            }
            Check.due("the same things", held(m).equals(before), true);
        }
        Check.end();
    }

    private static Set<Object> held(Object root) throws IllegalAccessException {
        Set<Object> found = Collections.newSetFromMap(new IdentityHashMap<>());
        add(root, found, 0);
        return found;
    }

    private static void add(Object one, Set<Object> found, int depth) throws IllegalAccessException {
        if (one == null || depth > 20 || !found.add(one)) {
            return;
        }
        if (one instanceof Object[] all) {
            for (Object each : all) {
                add(each, found, depth + 1);
            }
        } else if (!one.getClass().isArray()) {
            for (Field field : one.getClass().getDeclaredFields()) {
                if (!Modifier.isStatic(field.getModifiers()) && !field.getType().isPrimitive()) {
                    field.setAccessible(true);
                    add(field.get(one), found, depth + 1);
                }
            }
        }
    }

    private static long elements(Set<Object> found) {
        long sum = 0;
        for (Object one : found) {
            sum += one.getClass().isArray() ? Array.getLength(one)
                : one.getClass().getDeclaredFields().length;
        }
        return sum;
    }
}
