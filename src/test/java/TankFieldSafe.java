import java.lang.reflect.Array;
import java.lang.reflect.Field;
import java.lang.reflect.InvocationTargetException;
import java.lang.reflect.Method;
import java.lang.reflect.Modifier;
import java.util.ArrayDeque;
import java.util.ArrayList;
import java.util.Arrays;
import java.util.Collections;
import java.util.Comparator;
import java.util.Deque;
import java.util.IdentityHashMap;
import java.util.List;
import java.util.Random;
import java.util.Set;

/**
 * What LANGUAGE.md asks of every call, past the 512th too, where answers are free: it ends, nothing is thrown, like
 * calls give like answers, and the object takes no more room than at first. Asked of new fields and of full ones.
 */
public final class TankFieldSafe {
    private static final int RUNS = 60, CALLS = 4000;
    private static final int MOST_OBJECTS = 60, MOST_ELEMENTS = 6000;
    private static final int[] WILD = {Integer.MIN_VALUE, Integer.MIN_VALUE + 1, Integer.MAX_VALUE,
        Integer.MAX_VALUE - 1, 1 << 30, -(1 << 30), 0x7fff, 0x8000, -0x8001, 65536, -1, -2, 256, 20001, 20002};
    private static final int[] EDGES = {0, 1, 2, 3, 4, 9, 10, 29, 30, 39, 40, 239, 240};
    private static final int[] USUAL = {1, 2, 3, 5, 10, 31, 41, 101, 241, 256, 301, 4082, 20002};

    private static final List<Method> METHODS = methods();
    private static int wrong;

    public static void main(String[] args) throws ReflectiveOperationException {
        long calls = 0;
        for (int run = 0; run < RUNS; run++) {
            calls += oneRun(new Random(run), run % 3);
        }
        for (int kind = 0; kind < 3; kind++) {
            calls += everyEdge(kind);
        }
        System.out.println(calls + " calls, " + wrong + " wrong");
        if (wrong != 0) {
            System.exit(1);
        }
    }

    private static void wrong(String what) {
        wrong++;
        System.out.println(what);
    }

    // In an order of their own, for reflection promises none and runs must be the same each time.
    private static List<Method> methods() {
        List<Method> all = new ArrayList<>();
        for (Method m : TankField.class.getDeclaredMethods()) {
            if (Modifier.isPublic(m.getModifiers())) {
                all.add(m);
            }
        }
        all.sort(Comparator.comparing(Method::getName));
        return all;
    }

    private static long oneRun(Random random, int kind) throws ReflectiveOperationException {
        TankField field = made(kind);
        TankField twin = made(kind);
        long[] room = roomOf(new TankField());
        if (room[0] > MOST_OBJECTS || room[1] > MOST_ELEMENTS) {
            wrong("a new object takes " + room[0] + " objects, " + room[1] + " fields and elements");
        }
        for (int call = 0; call < CALLS; call++) {
            Method m = METHODS.get(random.nextInt(METHODS.size()));
            Object[] values = valuesFor(m, random);
            if (ask(field, m, values) != ask(twin, m, values)) {
                wrong(m.getName() + List.of(values) + " answers otherwise on a twin");
            }
        }
        long[] then = roomOf(field);
        if (then[0] != room[0] || then[1] != room[1]) {
            wrong("an object has grown to " + then[0] + " objects, " + then[1] + " fields and elements");
        }
        return CALLS;
    }

    /** Every call with every choice of wild numbers and edges, which long made-up runs would seldom bring together. */
    private static long everyEdge(int kind) throws ReflectiveOperationException {
        int[] all = Arrays.copyOf(WILD, WILD.length + EDGES.length);
        System.arraycopy(EDGES, 0, all, WILD.length, EDGES.length);
        long calls = 0;
        for (Method m : METHODS) {
            TankField field = made(kind);
            Object[] values = new Object[m.getParameterCount()];
            long choices = 1;
            for (int i = 0; i < values.length; i++) {
                choices *= all.length;
            }
            for (long choice = 0; choice < choices; choice++) {
                long rest = choice;
                for (int i = 0; i < values.length; i++) {
                    values[i] = all[(int) (rest % all.length)];
                    rest /= all.length;
                }
                ask(field, m, values);
            }
            calls += choices;
        }
        return calls;
    }

    /**
     * Of kind 0 a new field; else one with as much of each thing as there can be, so that every row is used to its
     * end: of kind 1 with CLOCKS and DOWNS and one HIT less; of kind 2 with every HIT an EVENT of its own.
     */
    private static TankField made(int kind) {
        TankField field = new TankField();
        if (kind > 0) {
            fill(field, kind);
        }
        return field;
    }

    private static void fill(TankField field, int kind) {
        Random random = new Random(kind);
        for (int t = 0; t < 30; t++) {
            field.tank(6 * t - 90, random.nextInt(201) - 100);
        }
        for (int h = 0; h < 238 + kind; h++) {
            int low = random.nextBoolean() ? 255 : random.nextInt(255);
            field.hit(h % 30, kind == 1 ? random.nextInt(20001) : 80 * h, low,
                    low < 255 ? -1 : random.nextInt(257) - 1);
        }
        for (int i = 0; i < 20 && kind == 1; i++) {
            field.clock(random.nextInt(30), random.nextInt(20001), random.nextInt(1001) - 500);
            field.down(random.nextInt(3), 1000 * i, 1000 * i + random.nextInt(1000));
        }
        for (int cell = 0; cell < 120; cell++) {
            if (cell % 40 == 0) {
                field.sheet(cell / 40, cell / 40, 40);
            }
            field.put(cell / 40, cell % 40, cell % 4 == 3 ? -1 : 0);
        }
        field.rule(0, kind == 1 ? 100 : 1);
        field.rule(1, kind == 1 ? 60 : 1);
        field.rule(2, 1);
        field.rule(3, 0);
        int built = field.build();
        if (kind == 2 && built != 240) {
            wrong("240 HITS that are far from one another make " + built + " EVENTS");
        }
    }

    private static Object[] valuesFor(Method m, Random random) {
        Object[] values = new Object[m.getParameterCount()];
        for (int i = 0; i < values.length; i++) {
            int turn = random.nextInt(12);
            values[i] = turn == 0 ? WILD[random.nextInt(WILD.length)]
                    : turn == 1 ? random.nextInt()
                    : random.nextInt(USUAL[random.nextInt(USUAL.length)]) - (turn == 2 ? 100 : 0);
        }
        return values;
    }

    private static long ask(TankField field, Method m, Object[] values) throws ReflectiveOperationException {
        try {
            return ((Number) m.invoke(field, values)).longValue();
        } catch (InvocationTargetException e) {
            wrong(m.getName() + List.of(values) + " threw " + e.getCause());
            return 0;
        }
    }

    /** How many objects and arrays an object reaches, and how many fields and elements these have. */
    private static long[] roomOf(Object root) throws ReflectiveOperationException {
        Set<Object> seen = Collections.newSetFromMap(new IdentityHashMap<>());
        Deque<Object> open = new ArrayDeque<>();
        open.add(root);
        long elements = 0;
        while (!open.isEmpty()) {
            Object next = open.remove();
            if (!seen.add(next)) {
                continue;
            }
            elements += next.getClass().isArray() ? Array.getLength(next) : fieldsOf(next, open);
        }
        return new long[] {seen.size(), elements};
    }

    private static int fieldsOf(Object object, Deque<Object> open) throws ReflectiveOperationException {
        int found = 0;
        for (Class<?> c = object.getClass(); c != Object.class; c = c.getSuperclass()) {
            for (Field f : c.getDeclaredFields()) {
                if (Modifier.isStatic(f.getModifiers())) {
                    continue;
                }
                found++;
                f.setAccessible(true);
                if (!f.getType().isPrimitive() && f.get(object) != null) {
                    open.add(f.get(object));
                }
            }
        }
        return found;
    }
}
