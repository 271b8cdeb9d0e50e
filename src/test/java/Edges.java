import java.lang.reflect.InvocationTargetException;
import java.lang.reflect.Method;
import java.util.ArrayList;
import java.util.Comparator;
import java.util.List;

/** Runs the tests of single sentences: each method of a class that says which one it is about. */
final class Edges {
    private Edges() {
    }

    static List<Method> of(Class<?> tests) {
        List<Method> found = new ArrayList<>();
        for (Method method : tests.getDeclaredMethods()) {
            if (method.isAnnotationPresent(Says.class)) {
                found.add(method);
            }
        }
        found.sort(Comparator.comparing(Method::getName));
        return found;
    }

    static void run(Class<?> tests) {
        for (Method method : of(tests)) {
            int before = Check.wrong();
            invoke(method);
            if (Check.wrong() > before) {
                Says says = method.getAnnotation(Says.class);
                String where = says.of() == 0 ? "the terms" : "promise " + says.of();
                System.out.println("  " + method.getName() + ": so " + where + " do not hold: " + says.value());
            }
        }
        Check.close();
    }

    /** What a call throws and the document does not name is as wrong as an answer that is not due. */
    private static void invoke(Method method) {
        try {
            method.invoke(null);
        } catch (InvocationTargetException e) {
            Check.dueText("a call in " + method.getName(), "no throw", String.valueOf(e.getCause()));
        } catch (IllegalAccessException e) {
            Check.dueText("the method " + method.getName(), "one that can be called", e.getMessage());
        }
    }
}
