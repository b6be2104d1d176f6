import java.lang.reflect.InvocationTargetException;
import java.lang.reflect.Method;
import java.util.Arrays;
import java.util.Comparator;

/**
 * Runs each boundary test of a class: every method promiseNN_call_case or termN_what_case. A test that fails is told by
 * its name; one that looks at nothing fails too.
 */
final class Edges {
    private Edges() {
    }

    static void run(Class<?> tests) throws IllegalAccessException {
        Method[] methods = tests.getDeclaredMethods();
        Arrays.sort(methods, Comparator.comparing(Method::getName));
        int count = 0;
        for (Method m : methods) {
            if (m.getName().matches("(promise\\d\\d|term\\d)_[a-z]+_\\w+")) {
                runOne(m);
                count++;
            } else {
                Check.due("a helper has no _ in its name: " + m.getName(), m.getName().contains("_") && !m.isSynthetic(), false);
            }
        }
        System.out.println(count + " boundary tests");
        Check.due("there are tests", count > 0, true);
        Check.finish();
    }

    private static void runOne(Method m) throws IllegalAccessException {
        Check.begin(m.getName());
        try {
            m.invoke(null);
        } catch (InvocationTargetException e) {
            Check.due("threw " + e.getCause(), true, false);
        }
        Check.due("something is looked at", Check.askedInTest() > 0, true);
        Check.begin("");
    }
}
