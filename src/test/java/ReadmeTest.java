import java.io.IOException;
import java.lang.reflect.Method;
import java.lang.reflect.Modifier;
import java.nio.file.Files;
import java.nio.file.Path;
import java.util.HashSet;
import java.util.List;
import java.util.Set;
import java.util.regex.Matcher;
import java.util.regex.Pattern;

/** What README.md shows: each call answers as it says there, and each call of the face is shown and listed. */
public final class ReadmeTest {

    private static final Path README = Path.of("README.md");
    private static final String NEW_OBJECT = "MirrorTelegraph x = new MirrorTelegraph();";
    private static final Pattern CALL =
            Pattern.compile("x\\.(\\w+)\\(([^)]*)\\); +// (throws \\w+|-?\\d[\\d.]*)(?:: .+)?");

    private final Set<String> shown = new HashSet<>();
    private Run run;

    public static void main(String[] args) throws IOException {
        List<String> lines = Files.readAllLines(README);
        ReadmeTest test = new ReadmeTest();
        test.dueAsShown(lines);
        test.dueAllShownAndListed(String.join("\n", lines));
        Check.end();
    }

    private void dueAsShown(List<String> lines) {
        boolean inside = false;
        for (String line : lines) {
            if (line.startsWith("```")) {
                inside = line.equals("```java");
                run = null;
            } else if (inside && line.equals(NEW_OBJECT)) {
                run = new Run();
            } else if (inside) {
                dueAsShown(line);
            }
        }
    }

    private void dueAsShown(String line) {
        Matcher call = CALL.matcher(line);
        if (run == null || !call.matches()) {
            Check.same("README.md: a call with its answer", "true", "false: " + line);
            return;
        }
        shown.add(call.group(1));
        run.written(call.group(3), call.group(1), call.group(2));
    }

    private void dueAllShownAndListed(String readme) {
        for (Method method : MirrorTelegraph.class.getDeclaredMethods()) {
            if (Modifier.isPublic(method.getModifiers())) {
                String name = method.getName();
                Check.same("README.md shows a run with " + name, "true", "" + shown.contains(name));
                Matcher row = Pattern.compile("\\| `" + name + "\\(([^)]*)\\)` \\| .").matcher(readme);
                Check.same("README.md lists " + name, "true", "" + row.find());
                int listed = row.reset().find() && !row.group(1).isEmpty() ? row.group(1).split(", ").length : 0;
                Check.same("README.md lists its arguments: " + name, "" + method.getParameterCount(), "" + listed);
            }
        }
    }
}
