import java.lang.reflect.Array;
import java.lang.reflect.Field;
import java.lang.reflect.InvocationTargetException;
import java.lang.reflect.Method;
import java.lang.reflect.Modifier;
import java.util.ArrayDeque;
import java.util.Arrays;
import java.util.Collections;
import java.util.Deque;
import java.util.IdentityHashMap;
import java.util.Set;

/** An object is used for 512 calls: as many of each kind end, none throws, and the object takes no more room then. */
public final class RoomTest {
    private static final Due DUE = new Due("RoomTest");
    private static final int CALLS = 512;
    private static final int[] TOLD = {0, 1, 2, 3, 7, 8, 9, -1, 60, 70, 127, 255, 12345678, Integer.MAX_VALUE, Integer.MIN_VALUE};

    public static void main(String[] args) throws IllegalAccessException, InvocationTargetException {
        long[] fresh = room(new OrbitDesigns());
        DUE.is("objects and arrays of one, " + fresh[0] + ", are few", fresh[0] <= 100 ? 1 : 0, 1);
        DUE.is("fields and elements of one, " + fresh[1] + ", are few", fresh[1] <= 8000 ? 1 : 0, 1);
        for (Method call : OrbitDesigns.class.getDeclaredMethods()) {
            if (Modifier.isPublic(call.getModifiers())) manyCalls(call, fresh);
        }
        DUE.end();
    }

    private static void manyCalls(Method call, long[] fresh) throws IllegalAccessException, InvocationTargetException {
        OrbitDesigns x = new OrbitDesigns();
        int number = 0;
        if (!Set.of("points", "way", "choose").contains(call.getName())) number = settle(x, 6 + call.getName().length() % 3);
        for (; number < CALLS; number++) call.invoke(x, told(call, number));
        DUE.is(call.getName() + ", then count(0)", x.count(0) >= 3 && x.count(0) <= 8 ? 1 : 0, 1);
        DUE.is(call.getName() + ", the room then", Arrays.equals(room(x), fresh) ? 1 : 0, 1);
    }

    /** Something to be asked about; answers how many calls that took. */
    private static int settle(OrbitDesigns x, int n) {
        x.points(n);
        x.way(0, 1);
        x.way(1, 1);
        x.choose(3, 1);
        x.keep();
        x.tape(0, 1, 60);
        x.tape(1, 1, 60);
        return 7;
    }

    /** Another row of numbers for each call, so that each number is told at each place. */
    private static Object[] told(Method call, int number) {
        Class<?>[] types = call.getParameterTypes();
        Object[] told = new Object[types.length];
        int mixed = number;
        for (int i = 0; i < told.length; i++) {
            int value = TOLD[mixed % TOLD.length];
            mixed = mixed / 3 + 7 * i;
            if (types[i] == long.class) told[i] = (long) value;
            else told[i] = value;
        }
        return told;
    }

    /** How many objects and arrays, and how many fields and elements, hang on an object. */
    private static long[] room(Object first) throws IllegalAccessException {
        Set<Object> seen = Collections.newSetFromMap(new IdentityHashMap<>());
        Deque<Object> open = new ArrayDeque<>();
        long places = 0;
        enter(first, seen, open);
        while (!open.isEmpty()) {
            Object one = open.pop();
            if (one.getClass().isArray()) {
                places += Array.getLength(one);
                if (one instanceof Object[] row) for (Object o : row) enter(o, seen, open);
                continue;
            }
            for (Field f : one.getClass().getDeclaredFields()) {
                if (Modifier.isStatic(f.getModifiers())) continue;
                places++;
                f.setAccessible(true);
                if (!f.getType().isPrimitive()) enter(f.get(one), seen, open);
            }
        }
        return new long[] {seen.size(), places};
    }

    private static void enter(Object one, Set<Object> seen, Deque<Object> open) {
        if (one != null && seen.add(one)) open.push(one);
    }
}
