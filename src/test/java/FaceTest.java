import java.lang.reflect.Constructor;
import java.lang.reflect.Field;
import java.lang.reflect.Method;
import java.lang.reflect.Modifier;
import java.util.ArrayList;
import java.util.List;
import java.util.Set;
import java.util.TreeSet;

/** The public face, and that nothing else is open (LANGUAGE.md, rule 1). */
public final class FaceTest {

    static final String[] FACE = {
        "int begin()",
        "int setHeight(int,int) IndexOutOfBoundsException IllegalArgumentException",
        "int hill(int,int,int) IndexOutOfBoundsException IllegalArgumentException",
        "int append(int) IllegalArgumentException IllegalStateException",
        "int clearBuffer()",
        "int firstError()",
        "int load(int) IndexOutOfBoundsException IllegalArgumentException IllegalStateException",
        "int addStation(int,int,int) IndexOutOfBoundsException IllegalArgumentException IllegalStateException",
        "int setMast(int,int) IndexOutOfBoundsException IllegalArgumentException",
        "int lend(int,int) IndexOutOfBoundsException IllegalStateException",
        "int addCloud(int,int,int,int) IndexOutOfBoundsException IllegalArgumentException IllegalStateException",
        "int clearClouds()",
        "int send(int,int,int,int) IndexOutOfBoundsException IllegalArgumentException IllegalStateException",
        "int cancel(int) IndexOutOfBoundsException",
        "int reorder()",
        "int count(int) IllegalArgumentException",
        "int station(int,int) IndexOutOfBoundsException IllegalArgumentException",
        "int blocker(int,int) IndexOutOfBoundsException IllegalArgumentException",
        "int link(int,int,int) IndexOutOfBoundsException IllegalArgumentException",
        "int mastFor(int,int) IndexOutOfBoundsException IllegalArgumentException",
        "int bestCell(int) IllegalArgumentException",
        "int arrival(int,int,int,int) IndexOutOfBoundsException IllegalArgumentException",
        "int message(int,int) IndexOutOfBoundsException IllegalArgumentException",
        "int hop(int,int,int) IndexOutOfBoundsException IllegalArgumentException",
        "int busy(int,int) IndexOutOfBoundsException IllegalArgumentException",
        "double workload()",
        "long digest()"
    };

    public static void main(String[] args) {
        faceIsTheDocuments();
        nothingElseIsOpen();
        innerClassesKeepTheRules();
        Check.end();
    }

    private static String signature(Method method) {
        StringBuilder text = new StringBuilder();
        text.append(method.getReturnType().getSimpleName()).append(' ').append(method.getName()).append('(');
        for (int i = 0; i < method.getParameterCount(); i++) {
            text.append(i == 0 ? "" : ",").append(method.getParameterTypes()[i].getSimpleName());
        }
        text.append(')');
        for (Class<?> exception : method.getExceptionTypes()) {
            text.append(' ').append(exception.getSimpleName());
        }
        return text.toString();
    }

    private static void faceIsTheDocuments() {
        Set<String> open = new TreeSet<>();
        for (Method method : MirrorTelegraph.class.getDeclaredMethods()) {
            if (!Modifier.isPrivate(method.getModifiers())) {
                open.add(Modifier.toString(method.getModifiers()) + " " + signature(method));
            }
        }
        Set<String> due = new TreeSet<>();
        for (String line : FACE) {
            due.add("public " + line);
        }
        Check.same("the public methods", due.toString(), open.toString());
    }

    private static void nothingElseIsOpen() {
        Class<?> face = MirrorTelegraph.class;
        Check.same("the class", "public final", Modifier.toString(face.getModifiers()));
        Constructor<?>[] constructors = face.getDeclaredConstructors();
        Check.same("constructors", "1", "" + constructors.length);
        Check.same("the constructor", "public MirrorTelegraph()", constructors[0].toString());
        for (Field field : face.getDeclaredFields()) {
            boolean none = field.getName().equals("NONE");
            String due = none ? "public static final" : Modifier.isStatic(field.getModifiers()) ? "private static final"
                    : "private final";
            Check.same("field " + field.getName(), due, Modifier.toString(field.getModifiers()));
        }
    }

    private static void innerClassesKeepTheRules() {
        Set<String> names = new TreeSet<>();
        for (Method method : MirrorTelegraph.class.getDeclaredMethods()) {
            if (Modifier.isPublic(method.getModifiers())) {
                names.add(method.getName());
            }
        }
        List<Class<?>> classes = new ArrayList<>(List.of(MirrorTelegraph.class.getDeclaredClasses()));
        Check.same("at most twelve classes", "true", "" + (classes.size() < 12));
        for (Class<?> inner : classes) {
            Check.same(inner + " is", "private static final", Modifier.toString(inner.getModifiers()));
        }
        classes.add(MirrorTelegraph.class);
        for (Class<?> each : classes) {
            int fields = 0;
            for (Field field : each.getDeclaredFields()) {
                boolean constant = Modifier.isStatic(field.getModifiers());
                fields += constant ? 0 : 1;
                Check.same(field + " is final if static", "true",
                        "" + (!constant || Modifier.isFinal(field.getModifiers()) && field.getType().isPrimitive()));
            }
            Check.same(each + " has some twenty fields at most", "true", "" + (fields <= 20));
            for (Method method : each.getDeclaredMethods()) {
                Check.same(method + " takes at most seven", "true", "" + (method.getParameterCount() <= 7));
                boolean shadows = names.contains(method.getName()) && !Modifier.isPublic(method.getModifiers());
                Check.same(method + " bears a public name", "false", "" + shadows);
            }
        }
    }
}
