import java.lang.reflect.InvocationTargetException;
import java.lang.reflect.Method;
import java.lang.reflect.Modifier;
import java.util.Map;
import java.util.TreeMap;

/**
 * Runs the tests of a class: its static methods whose names begin with "promise", by their names; with
 * -Dcase=promise18_noMonth those alone whose names begin so.
 */
final class Cases {
    private static String test = "";
    private static int right;
    private static int wrong;
    private static int failedTests;

    private Cases() {
    }

    static Map<String, Method> of(Class<?> tests) {
        Map<String, Method> all = new TreeMap<>();
        for (Method method : tests.getDeclaredMethods()) {
            if (method.getName().startsWith("promise") && Modifier.isStatic(method.getModifiers())) {
                all.put(method.getName(), method);
            }
        }
        return all;
    }

    /** Ends the test's machine with exit code 1 if a test fails. */
    static void runAll(Class<?> tests) {
        Map<String, Method> all = of(tests);
        String asked = System.getProperty("case", "");
        all.keySet().removeIf(name -> !name.startsWith(asked));
        for (Method method : all.values()) {
            runOne(method);
        }
        System.out.println(tests.getSimpleName() + ": " + all.size() + " tests, " + failedTests + " failed; "
            + right + " answers as due, " + wrong + " not");
        if (failedTests != 0 || all.isEmpty()) {
            System.exit(1);
        }
    }

    private static void runOne(Method method) {
        test = method.getName();
        int before = wrong;
        int asked = right;
        try {
            method.invoke(null);
        } catch (InvocationTargetException thrown) {
            right(false, "the test itself throws " + thrown.getCause());
        } catch (IllegalAccessException never) {
            throw new IllegalStateException(never);
        }
        right(right + wrong > asked + before, "the test asks nothing");
        failedTests += wrong > before ? 1 : 0;
    }

    static void right(boolean asDue, String told) {
        if (asDue) {
            right++;
        } else {
            wrong++;
            System.out.println(test + ": " + told);
        }
    }
}
