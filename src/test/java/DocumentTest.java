import java.io.IOException;
import java.lang.reflect.Method;
import java.nio.file.Files;
import java.nio.file.Path;
import java.util.ArrayList;
import java.util.List;
import java.util.Map;
import java.util.TreeMap;
import java.util.regex.Matcher;
import java.util.regex.Pattern;
import java.util.stream.Collectors;
import java.util.stream.Stream;

/**
 * The tests against the document: its face is the one that FaceTest wants, its examples hold as they are written there,
 * each of its sentences has a test that bears it, and each test bears one of them.
 */
public final class DocumentTest {

    private static final Path DOCUMENT = Path.of("../shared/DOC.md");
    private static final Path TESTS = Path.of("src/test/java");
    private static final Pattern PROMISE = Pattern.compile("## Promise (\\d+): .*");
    private static final Pattern METHOD = Pattern.compile("    public (\\w+ \\w+)\\(([^)]*)\\)(?: throws (.*))?;");
    private static final Pattern EXAMPLE =
            Pattern.compile("(\\w+)\\(([^)]*)\\) = (throws \\w+|-?\\d+(?:\\.\\d+)?)");

    /** For each promise the sentences that its tests bear. */
    private final Map<Integer, List<String>> borne = new TreeMap<>();

    public static void main(String[] args) throws IOException, ClassNotFoundException {
        if (!Files.exists(DOCUMENT)) {
            System.out.println("there is no " + DOCUMENT + " to compare with");
            return;
        }
        DocumentTest test = new DocumentTest();
        test.collect();
        List<String> lines = Files.readAllLines(DOCUMENT);
        dueFace(lines);
        dueExamples(lines);
        test.dueInTheDocument(String.join(" ", lines));
        test.dueDescriptionBorne(lines);
        test.duePromisesBorne(lines);
        Check.end();
    }

    /** A line of the face as FaceTest has it: the parameters by their types, the exceptions behind them. */
    private static String faceLine(Matcher method) {
        String types = method.group(2).replaceAll("(\\w+) \\w+(, )?", "$1,").replaceAll(",$", "");
        String exceptions = method.group(3) == null ? "" : " " + method.group(3).replace(",", "");
        return method.group(1) + "(" + types + ")" + exceptions;
    }

    private static void dueFace(List<String> lines) {
        List<String> face = lines.stream().map(METHOD::matcher).filter(Matcher::matches).map(DocumentTest::faceLine)
                .collect(Collectors.toList());
        Check.same("the face that the tests want", face.toString(), List.of(FaceTest.FACE).toString());
    }

    private static void dueExamples(List<String> lines) {
        int first = lines.indexOf(lines.stream().filter(line -> line.startsWith("Examples:")).findFirst().orElse(""));
        int examples = 0;
        for (int i = first + 1; i < lines.size() && lines.get(i).matches("\\d\\. .*"); i++) {
            examples++;
            Run run = new Run();
            int calls = 0;
            for (Matcher call = EXAMPLE.matcher(lines.get(i)); call.find(); calls++) {
                run.written(call.group(3), call.group(1), call.group(2));
            }
            Check.same("calls in " + lines.get(i), "" + lines.get(i).split("; ").length, "" + calls);
        }
        Check.same("examples in the document", "4", "" + examples);
    }

    private void collect() throws IOException, ClassNotFoundException {
        List<String> names;
        try (Stream<Path> files = Files.list(TESTS)) {
            names = files.map(file -> file.getFileName().toString())
                    .filter(name -> name.matches("Promise\\d+.*Test.java")).sorted().collect(Collectors.toList());
        }
        for (String name : names) {
            int promise = Integer.parseInt(name.replaceAll("\\D", ""));
            for (Method method : Class.forName(name.replace(".java", "")).getDeclaredMethods()) {
                Sentence sentences = method.getAnnotation(Sentence.class);
                if (sentences != null) {
                    borne.computeIfAbsent(promise, number -> new ArrayList<>()).addAll(List.of(sentences.value()));
                }
            }
        }
    }

    private void dueInTheDocument(String document) {
        borne.forEach((promise, sentences) -> sentences.forEach(sentence ->
                Check.same("promise " + promise + " of the document says: " + sentence, "true",
                        "" + document.contains(sentence))));
    }

    private static boolean isBorne(String sentence, List<String> by) {
        return by.stream().anyMatch(part -> sentence.contains(part) || part.contains(sentence));
    }

    private static void dueBorne(String where, String text, List<String> by) {
        for (String sentence : text.split("(?<=[.)]) (?=\\(?[A-Z])")) {
            // A heading of one to four words, as "Cells of a line.", says nothing by itself.
            boolean heading = sentence.split(" ").length <= 4 && where.equals("the description");
            if (!heading) {
                Check.same(where + ": a test bears \"" + sentence + "\"", "true", "" + isBorne(sentence, by));
            }
        }
    }

    private void dueDescriptionBorne(List<String> lines) {
        List<String> all = new ArrayList<>();
        borne.values().forEach(all::addAll);
        int first = lines.indexOf("## Description") + 1;
        for (int i = first; i < lines.size() && !lines.get(i).startsWith("Examples:"); i++) {
            if (!lines.get(i).isEmpty()) {
                dueBorne("the description", lines.get(i), all);
            }
        }
    }

    /** Of a promise's section all counts but its heading, its signature and the headings of groups. */
    private void duePromisesBorne(List<String> lines) {
        int promise = 0;
        int found = 0;
        for (String line : lines) {
            Matcher heading = PROMISE.matcher(line);
            if (heading.matches()) {
                promise = Integer.parseInt(heading.group(1));
                found++;
            } else if (line.startsWith("## ")) {
                promise = 0;
            } else if (promise != 0 && !line.isEmpty() && !line.startsWith("`") && !line.startsWith("----")) {
                dueBorne("promise " + promise, line, borne.getOrDefault(promise, List.of()));
            }
        }
        Check.same("promises in the document", Integer.toString(borne.size()), Integer.toString(found));
    }
}
