import java.lang.reflect.Constructor;
import java.lang.reflect.InvocationTargetException;
import java.lang.reflect.Method;
import java.lang.reflect.Modifier;
import java.util.ArrayList;
import java.util.Arrays;
import java.util.Comparator;
import java.util.List;

/**
 * Rule 7 of LANGUAGE.md method by method: each one, private ones and those of the classes inside, too, looks itself at
 * what it uses as an index or a divisor. So it throws nothing for any numbers, in whatever state others left its object.
 */
public final class GuardsTest {
    private static final int RUNS = 300, CALLS = 400;
    private static final long MOST_NANOS = 2_000_000_000L;
    private static final int[] NUMBERS = {
        Integer.MIN_VALUE, Integer.MIN_VALUE + 1, -1000, -65, -5, -1, 0, 1, 2, 3, 4, 5, 6, 7, 8, 9, 10, 20, 29, 30, 31, 40,
        59, 63, 64, 65, 99, 100, 127, 128, 239, 240, 241, 255, 767, 768, 1000, 100_000, Integer.MAX_VALUE - 1,
        Integer.MAX_VALUE,
    };

    private static long seed = 1;
    /** The objects of a run, one or more of each class, to call and to give to calls. */
    private static final List<Object> OBJECTS = new ArrayList<>();

    private static int below(int n) {
        seed = seed * 6364136223846793005L + 1442695040888963407L;
        return (int) ((seed >>> 33) % n);
    }

    public static void main(String[] args) throws ReflectiveOperationException {
        List<Method> methods = methods();
        for (Method m : methods) {
            OBJECTS.clear();
            fill();
            for (int i = 0; i < 200; i++) call(m);
        }
        for (int run = 0; run < RUNS; run++) {
            seed = 31L * run + 7;
            OBJECTS.clear();
            fill();
            for (int i = 0; i < CALLS; i++) call(methods.get(below(methods.size())));
        }
        Due.is("methods are called", methods.size() > 120 ? 1 : 0, 1);
        Due.end();
    }

    private static List<Method> methods() {
        List<Class<?>> classes = new ArrayList<>(Arrays.asList(DeadStick.class.getDeclaredClasses()));
        classes.add(DeadStick.class);
        List<Method> methods = new ArrayList<>();
        for (Class<?> c : classes) {
            for (Method m : c.getDeclaredMethods()) {
                if (m.isSynthetic()) continue;
                m.setAccessible(true);
                methods.add(m);
            }
        }
        methods.sort(Comparator.comparing(Method::toString));
        return methods;
    }

    /** Two of each class; of Rows some sizes, none among them. */
    private static void fill() throws ReflectiveOperationException {
        OBJECTS.add(new DeadStick());
        for (Class<?> c : DeadStick.class.getDeclaredClasses()) {
            for (Constructor<?> made : c.getDeclaredConstructors()) {
                if (made.isSynthetic()) continue;
                made.setAccessible(true);
                if (made.getParameterCount() == 0) {
                    OBJECTS.add(made.newInstance());
                    OBJECTS.add(made.newInstance());
                } else {
                    for (int[] size : new int[][] {{0, 0}, {1, 1}, {8, 5}, {4, 21}, {30, 2}, {-1, 3}}) {
                        OBJECTS.add(made.newInstance(size[0], size[1]));
                    }
                }
            }
        }
    }

    private static Object any(Class<?> c) {
        List<Object> such = new ArrayList<>();
        for (Object o : OBJECTS) {
            if (c.isInstance(o)) such.add(o);
        }
        return such.get(below(such.size()));
    }

    private static Object argument(Class<?> c) {
        int number = below(4) == 0 ? NUMBERS[below(NUMBERS.length)] : below(12) - 1;
        if (c == int.class) return number;
        if (c == long.class) return (long) number << 33 ^ number;
        if (c == boolean.class) return number > 3;
        if (c == char.class) return (char) number;
        return any(c);
    }

    private static void call(Method m) throws IllegalAccessException {
        Class<?>[] kinds = m.getParameterTypes();
        Object[] arguments = new Object[kinds.length];
        for (int i = 0; i < kinds.length; i++) arguments[i] = argument(kinds[i]);
        Object on = Modifier.isStatic(m.getModifiers()) ? null : any(m.getDeclaringClass());
        Due.begin(m.getDeclaringClass().getSimpleName() + "." + m.getName() + Arrays.toString(arguments) + ": ");
        long began = System.nanoTime();
        int thrown = 0;
        try {
            m.invoke(on, arguments);
        } catch (InvocationTargetException e) {
            thrown = 1;
            Due.wrong("it threw " + e.getCause());
        }
        Due.is("what it throws", thrown, 0);
        if (System.nanoTime() - began > MOST_NANOS) Due.wrong("it hardly ends");
    }
}
