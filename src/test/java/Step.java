import java.lang.reflect.InvocationTargetException;
import java.lang.reflect.Method;
import java.util.HashMap;
import java.util.Map;
import java.util.regex.Pattern;

/** A call by its name; no two methods of the face share one. */
final class Step {
    private static final Map<String, Method> FACE = face();

    private final String name;
    private final int[] arguments;

    Step(String name, int... arguments) {
        this.name = name;
        this.arguments = arguments;
    }

    /** Arguments as they are written in a call: numbers, and characters as '5'. */
    static int[] arguments(String written) {
        return written.isEmpty() ? new int[0] : Pattern.compile(", ").splitAsStream(written)
                .mapToInt(one -> one.startsWith("'") ? one.charAt(1) : Integer.parseInt(one)).toArray();
    }

    private static Map<String, Method> face() {
        Map<String, Method> methods = new HashMap<>();
        for (Method method : MirrorTelegraph.class.getDeclaredMethods()) {
            methods.put(method.getName(), method);
        }
        return methods;
    }

    /** What the call answers, as a text; an exception by its very class, since the machine's are subclasses. */
    String outcomeOn(MirrorTelegraph telegraph) {
        Method method = FACE.get(name);
        if (method == null || method.getParameterCount() != arguments.length) {
            throw new IllegalStateException("no such call: " + this);
        }
        Object[] boxed = new Object[arguments.length];
        for (int i = 0; i < boxed.length; i++) {
            boxed[i] = arguments[i];
        }
        try {
            return String.valueOf(method.invoke(telegraph, boxed));
        } catch (InvocationTargetException e) {
            return "throws." + e.getCause().getClass().getSimpleName();
        } catch (IllegalAccessException e) {
            throw new IllegalStateException(e);
        }
    }

    @Override
    public String toString() {
        StringBuilder text = new StringBuilder(name).append('(');
        for (int i = 0; i < arguments.length; i++) {
            text.append(i == 0 ? "" : ", ").append(arguments[i]);
        }
        return text.append(')').toString();
    }
}
