import java.lang.reflect.InvocationTargetException;
import java.lang.reflect.Method;
import java.lang.reflect.Modifier;
import java.util.ArrayList;
import java.util.Comparator;
import java.util.List;

/** Runs the tests of sentences in a class: each static method that is an {@link Edge}. */
final class Edges {
    private Edges() {
    }

    static List<Method> of(Class<?> tests) {
        List<Method> edges = new ArrayList<>();
        for (Method m : tests.getDeclaredMethods()) {
            if (m.isAnnotationPresent(Edge.class)) edges.add(m);
        }
        edges.sort(Comparator.comparing(Method::getName));
        return edges;
    }

    static void run(Class<?> tests) {
        Doc doc = new Doc();
        for (Method m : of(tests)) {
            Edge edge = m.getAnnotation(Edge.class);
            Due.begin(edge.at() + ", \"" + edge.says() + "\" (" + m.getName() + "): ");
            if (Doc.isThere() && doc.place(edge.at(), edge.says()) < 0) Due.wrong("these words don't stand there, or twice");
            call(m);
        }
        Due.begin("");
        for (Method m : tests.getDeclaredMethods()) {
            if (isForgotten(m)) Due.wrong(m.getName() + " is no Edge, so it doesn't run");
        }
        Due.end();
    }

    private static boolean isForgotten(Method m) {
        boolean couldRun = Modifier.isStatic(m.getModifiers()) && m.getParameterCount() == 0 && !m.isSynthetic();
        return couldRun && m.getReturnType() == void.class && !m.isAnnotationPresent(Edge.class);
    }

    private static void call(Method m) {
        int before = Due.asked();
        try {
            m.setAccessible(true);
            m.invoke(null);
        } catch (InvocationTargetException e) {
            Due.wrong("it threw " + e.getCause());
        } catch (IllegalAccessException e) {
            Due.wrong("it can't be called");
        }
        if (Due.asked() == before) Due.wrong("it asks nothing");
    }
}
