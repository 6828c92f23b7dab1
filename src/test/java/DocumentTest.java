import java.io.IOException;
import java.lang.reflect.Field;
import java.lang.reflect.Method;
import java.lang.reflect.Modifier;
import java.nio.file.Files;
import java.nio.file.Path;
import java.util.ArrayList;
import java.util.List;
import java.util.Set;
import java.util.TreeSet;
import java.util.regex.Matcher;
import java.util.regex.Pattern;

/** What can be tried just as it stands in the document: its face, its signatures, its constants and its examples. */
public final class DocumentTest {
    private static final Path DOCUMENT = Path.of("../shared/DOC.md");
    private static final Pattern CONSTANT = Pattern.compile("\\b([A-Z]+) = (-?\\d+)");
    private static final Pattern METHOD = Pattern.compile("public int (\\w+)\\(([^)]*)\\);");
    private static final Pattern SIGNATURE = Pattern.compile("`int (\\w+)\\(([^)]*)\\)`");
    private static final Pattern CALL = Pattern.compile("\\b([a-z]+)\\(([^)]*)\\) = (-?\\d+)");

    private static int wrong = 0;
    private static int calls = 0;

    public static void main(String[] args) throws Exception {
        String document = Files.readString(DOCUMENT);
        String face = between(document, "## The public face", "## Description");
        checkMethods("the public face", METHOD.matcher(face));
        checkMethods("the promises", SIGNATURE.matcher(between(document, "## Promise 1:", "## Not promised")));
        checkConstants("the public face", CONSTANT.matcher(face));
        String words = document.substring(document.indexOf("## Description"));
        checkConstants("the description", CONSTANT.matcher(between(words, "The constants:", "## Promise 1:")));
        tryExamples(between(words, "Examples: ", "The constants:"));
        System.out.println(wrong == 0 ? calls + " calls of the examples are as due" : wrong + " things are not as due");
        if (wrong != 0) {
            System.exit(1);
        }
    }

    private static String between(String text, String first, String last) throws IOException {
        int from = text.indexOf(first);
        int to = text.indexOf(last, Math.max(from, 0));
        if (from < 0 || to < 0) {
            throw new IOException("the document has no part from '" + first + "' to '" + last + "'");
        }
        return text.substring(from, to);
    }

    private static void due(String what, Object got, Object want) {
        if (!got.equals(want)) {
            wrong++;
            System.out.println(what + ": " + got + ", due is " + want);
        }
    }

    private static void checkMethods(String where, Matcher found) {
        Set<String> want = new TreeSet<>();
        while (found.find()) {
            List<String> types = new ArrayList<>();
            for (String parameter : found.group(2).split(",\\s*")) {
                if (!parameter.isEmpty()) {
                    types.add(parameter.split(" ")[0]);
                }
            }
            want.add(found.group(1) + types);
        }
        Set<String> got = new TreeSet<>();
        for (Method m : FiniteTerms.class.getMethods()) {
            if (m.getDeclaringClass() == FiniteTerms.class) {
                List<String> types = new ArrayList<>();
                for (Class<?> type : m.getParameterTypes()) {
                    types.add(type.getName());
                }
                got.add(m.getName() + types);
            }
        }
        due("the methods of " + where, got, want);
    }

    private static void checkConstants(String where, Matcher found) throws IllegalAccessException {
        Set<String> want = new TreeSet<>();
        while (found.find()) {
            want.add(found.group(1) + " = " + found.group(2));
        }
        Set<String> got = new TreeSet<>();
        for (Field f : FiniteTerms.class.getFields()) {
            boolean constant = Modifier.isStatic(f.getModifiers()) && Modifier.isFinal(f.getModifiers());
            got.add(f.getName() + " = " + (constant ? f.get(null) : "no constant"));
        }
        due("the constants of " + where, got, want);
    }

    private static void tryExamples(String text) throws ReflectiveOperationException {
        int examples = 0;
        for (String line : text.split("\n")) {
            if (line.matches("\\d+\\. .*")) {
                examples++;
                tryExample(examples, CALL.matcher(line));
            }
        }
        due("an example was found", examples > 0 && calls > 0, true);
    }

    private static void tryExample(int number, Matcher found) throws ReflectiveOperationException {
        FiniteTerms x = new FiniteTerms();
        while (found.find()) {
            calls++;
            String[] given = found.group(2).isEmpty() ? new String[0] : found.group(2).split(",");
            int got = call(x, found.group(1), given);
            due("example " + number + ", " + found.group(1) + "(" + found.group(2) + ")", got, Integer.valueOf(found.group(3)));
        }
    }

    private static int call(FiniteTerms x, String name, String[] given) throws ReflectiveOperationException {
        for (Method m : FiniteTerms.class.getMethods()) {
            if (m.getDeclaringClass() == FiniteTerms.class && m.getName().equals(name)) {
                Object[] values = new Object[given.length];
                for (int k = 0; k < given.length; k++) {
                    String value = given[k].trim();
                    values[k] = m.getParameterTypes()[k] == long.class ? (Object) Long.valueOf(value) : Integer.valueOf(value);
                }
                return (int) m.invoke(x, values);
            }
        }
        throw new NoSuchMethodException(name);
    }
}
