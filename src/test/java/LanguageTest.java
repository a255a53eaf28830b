import java.io.IOException;
import java.nio.file.Files;
import java.nio.file.Path;
import java.util.ArrayList;
import java.util.List;
import java.util.Map;
import java.util.Set;
import java.util.TreeMap;
import javax.tools.ToolProvider;

/** Those rules of LANGUAGE.md that a machine can look after, on the program as the compiler sees it. */
public final class LanguageTest {

    private static final int DEPTH_LIMIT = 8;
    private static final int LINE_LIMIT = 60;
    private static final int CLASS_LIMIT = 12;

    private static final String NUMBER = "(int|long|short|byte|char|boolean|double|float)";
    private static final String OWN = "MirrorTelegraph(\\.\\w+)*";
    private static final String TYPE = NUMBER + "(\\[\\]){0,2}|" + OWN + "(\\[\\])?|java\\.lang\\.String(Builder)?"
            + "|java\\.util\\.(Array)?List<(java\\.lang\\.Integer|" + OWN + ")>";
    private static final String STATIC_TYPE =
            "final (int|long|boolean|char|java\\.lang\\.String|(int|long|char|byte)\\[\\])";
    private static final String THROWN =
            "new (IndexOutOfBounds|IllegalArgument|IllegalState)Exception\\((\"[^\"]*\")?\\)";

    /** Rule 4, as far as the program needs it: static functions over int and long, and what fills and copies rows. */
    private static final String LIBRARY = "(Math|Integer|Long)\\.\\w+(?<!Exact)\\((int|long)(,(int|long))*\\)"
            + "|Arrays\\.(copyOf|copyOfRange|fill)\\([a-z]+\\[\\](,[a-z]+)*\\)|System\\.arraycopy\\(.*\\)";

    private final Map<String, Integer> depths = new TreeMap<>();
    private final ProgramTree tree;

    private LanguageTest(ProgramTree tree) {
        this.tree = tree;
    }

    public static void main(String[] args) throws IOException {
        if (ToolProvider.getSystemJavaCompiler() == null) {
            System.out.println("this Java has no compiler to read the program with");
            return;
        }
        Path source = Path.of(args[0]);
        LanguageTest test = new LanguageTest(ProgramTree.read(source));
        test.onlyWhatTheRulesLeave();
        test.sizes();
        test.callsAreNotDeep();
        test.noCallMakesObjects();
        oneFileOfPlainSigns(Files.readString(source));
        Check.end();
    }

    private static void each(String rule, Iterable<String> found, String pattern) {
        for (String one : found) {
            Check.same(rule + ": " + one, "true", "" + one.matches(pattern));
        }
    }

    private void onlyWhatTheRulesLeave() {
        Check.same("rules 2, 6, 9 and 10: left out", "[]", tree.leftOut.toString());
        each("rule 3: a type", tree.types, TYPE);
        each("rule 4: a call of the library", tree.library, LIBRARY);
        each("rule 5: a static field", tree.statics, STATIC_TYPE);
        each("rule 6: thrown", tree.thrown, THROWN);
        Check.same("rule 7: divisors that nothing looks at", "[]", tree.blindDivisors.toString());
        Check.same("rule 6: something is thrown", "false", "" + tree.thrown.isEmpty());
    }

    private void sizes() {
        Check.same("rule 11: at most " + CLASS_LIMIT + " classes", "true", "" + (tree.classes.size() <= CLASS_LIMIT));
        tree.lengths.forEach((method, lines) -> Check.same("rule 11: " + method + " has " + lines + " lines", "true",
                "" + (lines <= LINE_LIMIT)));
    }

    /** Rules 8 and 11: no method comes to itself again, and at most eight calls stand open at once. */
    private void callsAreNotDeep() {
        for (String method : tree.calls.keySet()) {
            int depth = depthOf(method, new ArrayList<>());
            Check.same("rule 11: " + method + " goes " + depth + " deep", "true", "" + (depth <= DEPTH_LIMIT));
        }
        Check.same("calls inside digest were found", "true", "" + (depths.get("MirrorTelegraph.digest()") > 1));
    }

    private int depthOf(String method, List<String> open) {
        Check.same("rule 8: " + method + " calls itself behind " + open, "false", "" + open.contains(method));
        if (depths.containsKey(method) || open.contains(method)) {
            return depths.getOrDefault(method, DEPTH_LIMIT + 1);
        }
        open.add(method);
        int deepest = 0;
        for (String called : tree.calls.getOrDefault(method, Set.of())) {
            deepest = Math.max(deepest, depthOf(called, open));
        }
        open.remove(method);
        depths.put(method, deepest + 1);
        return deepest + 1;
    }

    /** Rule 12, as this program keeps it: all is made with the telegraph, in fields and constructors. */
    private void noCallMakesObjects() {
        each("rule 12: made", tree.makings, ".* in (a field|(\\w+)\\.\\2\\(.*\\))");
        Check.same("rule 12: something is made", "false", "" + tree.makings.isEmpty());
    }

    private static void oneFileOfPlainSigns(String source) {
        Check.same("signs 1 to 127", "true", "" + source.chars().allMatch(c -> c >= 1 && c <= 127));
        List<String> imports = new ArrayList<>();
        source.lines().filter(line -> line.startsWith("import ")).forEach(imports::add);
        Check.same("imports", "[import java.util.Arrays;]", imports.toString());
        Check.same("a package", "false", "" + source.lines().anyMatch(line -> line.startsWith("package ")));
    }
}
