import java.lang.reflect.InvocationTargetException;
import java.lang.reflect.Method;
import java.util.Map;
import java.util.Set;
import java.util.TreeMap;
import java.util.TreeSet;

/** Runs all tests of a class that bear the number of their promise in their name, as "promise23KeyInNothing". */
final class NamedTests {
    private static final String PREFIX = "promise";

    private NamedTests() {
    }

    /** Each promise from the first to the last one must have a test, and each test must ask something. */
    static void run(Class<?> tests, Checks checks, int first, int last) throws IllegalAccessException {
        Set<Integer> tested = new TreeSet<>();
        for (Map.Entry<String, Method> test : byName(tests).entrySet()) {
            int before = checks.answers();
            checks.test(test.getKey());
            invoke(test.getValue(), checks);
            checks.due("has asked something", true, checks.answers() > before);
            tested.add(promiseOf(test.getKey()));
        }
        checks.test(tests.getSimpleName());
        for (int promise = first; promise <= last; promise++) {
            checks.due("has a test of promise " + promise, true, tested.contains(promise));
        }
        checks.due("promises with a test", last - first + 1, tested.size());
    }

    private static Map<String, Method> byName(Class<?> tests) {
        Map<String, Method> found = new TreeMap<>();
        for (Method method : tests.getDeclaredMethods()) {
            if (method.getName().startsWith(PREFIX)) {
                found.put(method.getName(), method);
            }
        }
        return found;
    }

    private static void invoke(Method test, Checks checks) throws IllegalAccessException {
        try {
            test.invoke(null);
        } catch (InvocationTargetException thrown) {
            checks.due("ends", "without an exception", thrown.getCause());
        }
    }

    private static int promiseOf(String name) {
        int end = PREFIX.length();
        while (end < name.length() && Character.isDigit(name.charAt(end))) {
            end++;
        }
        return Integer.parseInt(name.substring(PREFIX.length(), end));
    }
}
