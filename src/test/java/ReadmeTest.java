import java.io.IOException;
import java.net.URL;
import java.net.URLClassLoader;
import java.nio.file.Files;
import java.nio.file.Path;
import java.util.Comparator;
import java.util.List;
import java.util.Map;
import java.util.TreeMap;
import java.util.regex.Matcher;
import java.util.regex.Pattern;
import java.util.stream.Collectors;
import java.util.stream.Stream;
import javax.tools.ToolProvider;

/** What README.md says of calls and answers: its examples are compiled and run, each call with its answer. */
public final class ReadmeTest {
    private static final Path README = Path.of("README.md");
    private static final Pattern BLOCK = Pattern.compile("(?s)```java\\n(.*?)```");
    private static final Pattern CALL = Pattern.compile("x\\.\\w+\\(.*?\\);");
    private static final Pattern ANSWERED = Pattern.compile("(x\\.\\w+\\(.*\\)); +// (-?\\d+|[A-Z]+|'.')(:.*)?");
    private static final Pattern ERROR = Pattern.compile("\\| `([A-Z]+)` \\| (-?\\d+) \\|");

    private static int wrong = 0;
    private static int answers = 0;

    public static void main(String[] args) throws Exception {
        String readme = Files.readString(README);
        checkErrors(ERROR.matcher(readme));
        Path place = Files.createTempDirectory("readme");
        try {
            Path file = place.resolve("Examples.java");
            Files.writeString(file, program(readme));
            int refused = ToolProvider.getSystemJavaCompiler().run(null, System.out, System.out,
                "-cp", System.getProperty("java.class.path"), "-d", place.toString(), file.toString());
            due("the examples compile", refused, 0);
            if (refused == 0) {
                run(place);
            }
        } finally {
            delete(place);
        }
        due("answers were found", answers > 0, true);
        System.out.println(wrong == 0 ? answers + " answers in README.md are so" : wrong + " things are not so");
        if (wrong != 0) {
            System.exit(1);
        }
    }

    /** The compiled examples call this for each answer. */
    public static void due(String what, Object got, Object want) {
        if (!got.equals(want)) {
            wrong++;
            System.out.println(what + ": " + got + ", README.md says " + want);
        }
    }

    private static void checkErrors(Matcher found) throws ReflectiveOperationException {
        Map<String, Integer> said = new TreeMap<>();
        while (found.find()) {
            said.put(found.group(1), Integer.valueOf(found.group(2)));
        }
        Map<String, Integer> got = new TreeMap<>();
        for (var field : FiniteTerms.class.getFields()) {
            got.put(field.getName(), field.getInt(null));
        }
        due("the errors", got, said);
    }

    private static String program(String readme) {
        StringBuilder program = new StringBuilder("public final class Examples {\n");
        Matcher block = BLOCK.matcher(readme);
        int blocks = 0;
        while (block.find()) {
            program.append("public static void example").append(blocks++).append("() {\n");
            for (String line : block.group(1).split("\n")) {
                program.append(statement(line)).append('\n');
            }
            program.append("}\n");
        }
        due("examples were found", blocks > 0, true);
        return program.append("}\n").toString();
    }

    /** A call with its answer becomes a test; a call at the left margin must have one. */
    private static String statement(String line) {
        Matcher m = ANSWERED.matcher(line);
        if (!m.matches()) {
            due("a call without an answer in '" + line + "'", line.startsWith("x.") && CALL.matcher(line).find(), false);
            return line;
        }
        answers++;
        String want = Character.isUpperCase(m.group(2).charAt(0)) ? "FiniteTerms." + m.group(2) : m.group(2);
        String name = m.group(1).replace("\"", "\\\"");
        return "ReadmeTest.due(\"" + name + "\", " + m.group(1) + ", (int) " + want + ");";
    }

    private static void run(Path place) throws Exception {
        try (URLClassLoader loader = new URLClassLoader(new URL[] {place.toUri().toURL()}, ReadmeTest.class.getClassLoader())) {
            for (var method : loader.loadClass("Examples").getDeclaredMethods()) {
                method.invoke(null);
            }
        }
    }

    private static void delete(Path place) throws IOException {
        try (Stream<Path> paths = Files.walk(place)) {
            List<Path> deepestFirst = paths.sorted(Comparator.reverseOrder()).collect(Collectors.toList());
            for (Path path : deepestFirst) {
                Files.delete(path);
            }
        }
    }
}
