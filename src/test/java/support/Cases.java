import java.lang.reflect.InvocationTargetException;
import java.lang.reflect.Method;
import java.lang.reflect.Modifier;
import java.util.Map;
import java.util.TreeMap;

/**
 * Runs the cases of a test: its static methods that take a Check and whose names begin with
 * "promise" and the promise's two digits. Each is a boundary that the document names.
 */
final class Cases {
    private Cases() {
    }

    static void run(Class<?> test) {
        Map<String, Method> cases = new TreeMap<>();
        for (Method m : test.getDeclaredMethods()) {
            if (m.getName().matches("promise[0-9]{2}[A-Z0-9].*") && Modifier.isStatic(m.getModifiers())) {
                cases.put(m.getName(), m);
            }
        }
        int failed = 0;
        for (Map.Entry<String, Method> one : cases.entrySet()) {
            failed += holds(test.getName() + "." + one.getKey(), one.getValue()) ? 0 : 1;
        }
        System.out.println(test.getName() + ": " + cases.size() + " cases, " + failed + " failed");
        if (failed > 0 || cases.isEmpty()) {
            System.exit(1);
        }
    }

    private static boolean holds(String name, Method one) {
        Check check = new Check(name);
        try {
            one.invoke(null, check);
        } catch (InvocationTargetException e) {
            System.out.println(name + " threw " + e.getCause());
            return false;
        } catch (IllegalAccessException e) {
            System.out.println(name + " can't be called: " + e);
            return false;
        }
        // a case that looked at nothing shows nothing
        if (check.lookedAt() == 0) {
            System.out.println(name + " looked at no answer");
        }
        return !check.failed() && check.lookedAt() > 0;
    }
}
