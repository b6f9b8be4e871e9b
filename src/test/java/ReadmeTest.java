import java.io.IOException;
import java.net.URL;
import java.net.URLClassLoader;
import java.nio.file.Files;
import java.nio.file.Path;
import java.util.Arrays;
import java.util.Comparator;
import java.util.Map;
import java.util.Set;
import java.util.TreeMap;
import java.util.TreeSet;
import java.util.regex.Matcher;
import java.util.regex.Pattern;
import java.util.stream.Collectors;
import java.util.stream.Stream;
import javax.tools.ToolProvider;

/** README.md: its examples answer what stands behind them, its tables have the document's calls and refusals. */
public final class ReadmeTest {
    private static final Pattern EXAMPLES = Pattern.compile("(?s)```java\n(.*?)```");
    private static final Pattern NEW_OBJECT = Pattern.compile("NationBooks books = new NationBooks\\(\\);");
    private static final Pattern CALL = Pattern.compile("(?:int (\\w+) = )?(books\\.\\w+\\(.*\\)); *// ([^:]+)(?::.*)?");
    private static final Pattern FACE = Pattern.compile("    public (?:int|long) (\\w+)\\((.*)\\);");
    private static final Pattern PROMISE = Pattern.compile("(?s)## Promise \\d+: (\\w+)\n\n`[^`]*`: ([^\n]*)");
    private static final Pattern TABLE_ROW = Pattern.compile("\\| `(\\w+)\\((.*?)\\)` \\| ([^|]+) \\|([^|]*)\\|");
    private static final Set<String> REFUSALS = Set.of("BAD", "NOT", "FULL", "NULL", "INDEX", "CAST", "STORE", "SIZE");
    private static int wrong = 0;
    private static int checks = 0;

    /** Examples call it, so it is open to them. */
    public static void due(String call, long got, long want) {
        mustBe(got == want, "README.md: " + call + " answers " + got + ", there stands " + want);
    }

    private static void mustBe(boolean is, String what) {
        checks++;
        if (!is) {
            wrong++;
            System.out.println("not so: " + what);
        }
    }

    private static String bodyOf(String examples) {
        StringBuilder body = new StringBuilder();
        for (String line : examples.split("\n")) {
            Matcher call = CALL.matcher(line);
            if (NEW_OBJECT.matcher(line).matches()) {
                body.append(line).append('\n');
            } else if (call.matches()) {
                String name = call.group(1);
                if (name != null) body.append("int " + name + " = " + call.group(2) + ";\n");
                String got = name != null ? name : call.group(2);
                body.append("ReadmeTest.due(\"" + call.group(2) + "\", " + got + ", " + call.group(3) + ");\n");
            } else {
                mustBe(false, "an example is a call with its answer behind it: " + line);
            }
        }
        return body.toString();
    }

    /** The examples are compiled as they stand, so that names and expressions are Java's. */
    private static void runExamples(String readme) throws IOException, ReflectiveOperationException {
        StringBuilder source = new StringBuilder("public final class Examples { public static void run() {\n");
        Matcher examples = EXAMPLES.matcher(readme);
        int before = checks;
        while (examples.find()) {
            source.append("{\n").append(bodyOf(examples.group(1))).append("}\n");
        }
        Path room = Files.createTempDirectory("readme");
        try {
            Path file = Files.writeString(room.resolve("Examples.java"), source.append("} }\n"));
            String classes = System.getProperty("java.class.path");
            int failed = ToolProvider.getSystemJavaCompiler().run(null, null, null, "-cp", classes, file.toString());
            mustBe(failed == 0, "the examples compile");
            if (failed == 0) runCompiled(room);
        } finally {
            remove(room);
        }
        mustBe(checks > before + 20, "there are examples");
    }

    private static void runCompiled(Path room) throws IOException, ReflectiveOperationException {
        try (URLClassLoader loader = new URLClassLoader(new URL[] {room.toUri().toURL()})) {
            loader.loadClass("Examples").getMethod("run").invoke(null);
        }
    }

    private static void remove(Path room) throws IOException {
        try (Stream<Path> files = Files.walk(room)) {
            for (Path file : files.sorted(Comparator.reverseOrder()).toList()) {
                Files.delete(file);
            }
        }
    }

    private static String namesOf(String parameters) {
        return Arrays.stream(parameters.split(", ")).map(p -> p.replaceAll(".* ", "")).collect(Collectors.joining(", "));
    }

    private static Set<String> refusalsIn(String text) {
        Set<String> out = new TreeSet<>(Arrays.asList(text.split("\\W+")));
        out.retainAll(REFUSALS);
        return out;
    }

    private static void tables(String readme, String document) {
        Map<String, String> parameters = new TreeMap<>();
        Map<String, Set<String>> refusals = new TreeMap<>();
        Matcher row = TABLE_ROW.matcher(readme);
        while (row.find()) {
            mustBe(parameters.put(row.group(1), row.group(2)) == null, row.group(1) + " stands in one row");
            refusals.put(row.group(1), refusalsIn(row.group(4)));
        }
        Matcher face = FACE.matcher(document);
        int calls = 0;
        while (face.find()) {
            calls++;
            mustBe(namesOf(face.group(2)).equals(parameters.get(face.group(1))), face.group(1) + " has a row with its parameters");
        }
        mustBe(calls == parameters.size(), "the tables have the document's " + calls + " calls, and no others");
        Matcher promise = PROMISE.matcher(document);
        int promises = 0;
        while (promise.find()) {
            promises++;
            Set<String> due = refusalsIn(promise.group(2));
            mustBe(due.equals(refusals.get(promise.group(1))), promise.group(1) + " has the refusals " + due);
        }
        mustBe(promises == calls, "each call has a promise");
    }

    private static void calls(String readme, String document) {
        Matcher most = Pattern.compile("An object is used for at most \\d+ calls").matcher(document);
        mustBe(most.find() && readme.contains(most.group()), "it says for how many calls an object is used");
    }

    public static void main(String[] args) throws IOException, ReflectiveOperationException {
        String readme = Files.readString(Path.of("README.md"));
        String document = Files.readString(Path.of("../shared/DOC.md"));
        runExamples(readme);
        tables(readme, document);
        calls(readme, document);
        System.out.println(checks + " checks, " + wrong + " wrong");
        if (wrong != 0) System.exit(1);
    }
}
