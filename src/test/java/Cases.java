import java.lang.reflect.InvocationTargetException;
import java.lang.reflect.Method;
import java.util.TreeMap;

/** Runs a class of cases: each is a static method whose name begins with its promise, as in p03_sixtyClauses. */
final class Cases {
    private Cases() {
    }

    /** Each promise from the first to the last must have a case at least. */
    static void run(Class<?> tests, int first, int last) throws IllegalAccessException {
        TreeMap<String, Method> cases = new TreeMap<>();
        for (Method one : tests.getDeclaredMethods()) {
            if (one.getName().matches("p\\d\\d_\\w+")) {
                one.setAccessible(true);
                cases.put(one.getName(), one);
            }
        }
        for (int promise = first; promise <= last; promise++) {
            String start = String.format("p%02d_", promise);
            Check.begin("promise " + promise);
            Check.is("has a case", cases.ceilingKey(start) != null && cases.ceilingKey(start).startsWith(start), true);
        }
        for (String name : cases.keySet()) {
            Check.begin("promise " + Integer.parseInt(name.substring(1, 3)) + ", " + name.substring(4));
            try {
                cases.get(name).invoke(null);
            } catch (InvocationTargetException e) {
                Check.wrong("ended by " + e.getCause());
            }
        }
        Check.end(tests.getName() + ", " + cases.size() + " cases");
    }
}
