import java.lang.reflect.InvocationTargetException;
import java.lang.reflect.Method;
import java.util.Arrays;
import java.util.Comparator;

/** What the tests of all promises share: each test is a static method that bears the sentence it looks after. */
abstract class PromiseTests {
    static final String INDEX = Check.INDEX;
    static final String ARGUMENT = Check.ARGUMENT;
    static final String STATE = Check.STATE;

    static final int NONE = -1;
    static final int MIN = Integer.MIN_VALUE;
    static final int MAX = Integer.MAX_VALUE;

    /** The hours 7 to 17, bit h for hour h: on open ground a station has sun in all of them. */
    static final int ALL_SUN = 262016;

    static int hour(int h) {
        return 1 << h;
    }

    /** Runs all tests of a class, by their names, so that none is forgotten in a list. */
    static void runAll(Class<?> tests) {
        Method[] methods = tests.getDeclaredMethods();
        Arrays.sort(methods, Comparator.comparing(Method::getName));
        int found = 0;
        for (Method method : methods) {
            if (method.isAnnotationPresent(Sentence.class)) {
                found++;
                Check.begin(tests.getName() + "." + method.getName());
                run(method);
            }
        }
        Check.same("tests in " + tests.getName(), "true", "" + (found > 0));
        Check.end();
    }

    private static void run(Method method) {
        try {
            method.setAccessible(true);
            method.invoke(null);
        } catch (InvocationTargetException e) {
            throw new IllegalStateException("a test broke off: " + method.getName(), e.getCause());
        } catch (IllegalAccessException e) {
            throw new IllegalStateException("a test cannot be run: " + method.getName(), e);
        }
    }
}
