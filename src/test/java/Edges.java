import java.lang.reflect.InvocationTargetException;
import java.lang.reflect.Method;
import java.lang.reflect.Modifier;
import java.util.Arrays;
import java.util.Comparator;

/** Runs the tests of boundary cases: each is a method of its own, named by p, the promise's number, and the case. */
final class Edges {
    static final int NONE = OneWire.NONE, BAD = OneWire.BAD, STATE = OneWire.STATE, FULL = OneWire.FULL;
    static final int MIN = Integer.MIN_VALUE, MAX = Integer.MAX_VALUE;

    private Edges() {
    }

    /** Runs all tests of a class; there is one at least for each promise from the first to the last. */
    static void run(Class<?> tests, int first, int last) {
        Method[] all = Arrays.stream(tests.getDeclaredMethods()).filter(m -> m.getName().matches("p\\d\\d_\\w+"))
            .sorted(Comparator.comparing(Method::getName)).toArray(Method[]::new);
        boolean[] seen = new boolean[last + 1];
        for (Method test : all) {
            int promise = Integer.parseInt(test.getName().substring(1, 3));
            Due.is(test.getName() + " is of these promises", promise >= first && promise <= last ? 1 : 0, 1);
            if (promise <= last) seen[promise] = true;
            invoke(test);
        }
        for (int promise = first; promise <= last; promise++) Due.is("promise " + promise + " has tests", seen[promise] ? 1 : 0, 1);
        System.out.println(all.length + " tests");
        Due.end();
    }

    private static void invoke(Method test) {
        Due.is(test.getName() + " is static", Modifier.isStatic(test.getModifiers()) ? 1 : 0, 1);
        int before = Due.looked();
        Due.test(test.getName());
        try {
            test.invoke(null);
        } catch (InvocationTargetException e) {
            Due.is("threw " + e.getCause(), 1, 0);
        } catch (IllegalAccessException e) {
            throw new IllegalStateException(e);
        }
        Due.test("");
        Due.is(test.getName() + " looks at answers", Due.looked() > before ? 1 : 0, 1);
    }
}
