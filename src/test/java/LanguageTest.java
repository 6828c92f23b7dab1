import java.io.IOException;
import java.lang.management.ManagementFactory;
import java.lang.reflect.Constructor;
import java.lang.reflect.Field;
import java.lang.reflect.Method;
import java.lang.reflect.Modifier;
import java.nio.file.Files;
import java.nio.file.Path;
import java.util.ArrayList;
import java.util.Arrays;
import java.util.List;
import java.util.Set;
import java.util.TreeSet;
import java.util.regex.Matcher;
import java.util.regex.Pattern;

/** The face of the class, the rules of LANGUAGE.md that can be seen from outside, and the room that runs take. */
public final class LanguageTest {
    private static final Path SOURCE = Path.of("src/main/java/FiniteTerms.java");
    private static final String[] FACE = {
        "coef(int,int,int,int)", "letter(int,int,int)", "value(int,int,int)", "told(int,int)", "count(int)", "type(int)",
        "read(int,int)", "tower(int,int,int,int,int)", "join(int,int,int,int)", "derive(int,int)", "drift(int)",
        "undo()", "seed(int)", "part(int,int,int,int)", "split(int,int,int,int)", "asked(int,int)",
        "integral(int,int,int,int)", "left(int,int,int,int)", "residue(int,int)", "log(int,int,int,int)",
        "pencil(int,int,int)", "image()", "restore()", "seen(int,int,int,int)", "lay(int,int,int,int,int)",
        "film(int,int,int,int,int)", "sheet(int,int,int)", "drop(int)", "item(int,int,int,long)",
        "copy(int,int,int,int,int)",
    };
    private static final String[] CONSTANTS = {"BAD", "CAST", "FULL", "INDEX", "NONE", "NOT", "NULL", "SIZE"};

    private static final List<String> WRONG = new ArrayList<>();

    public static void main(String[] args) throws IOException {
        checkFace();
        checkNestedClasses();
        checkSource(Files.readString(SOURCE));
        checkRoom();
        WRONG.forEach(System.out::println);
        System.out.println(WRONG.isEmpty() ? "the rules are kept" : WRONG.size() + " rules are broken");
        if (!WRONG.isEmpty()) {
            System.exit(1);
        }
    }

    private static void want(boolean holds, String rule) {
        if (!holds) {
            WRONG.add(rule);
        }
    }

    private static String signature(Method m) {
        List<String> types = new ArrayList<>();
        for (Class<?> type : m.getParameterTypes()) {
            types.add(type.getSimpleName());
        }
        return m.getName() + "(" + String.join(",", types) + ")";
    }

    private static void checkFace() {
        Class<?> c = FiniteTerms.class;
        want(Modifier.isPublic(c.getModifiers()) && Modifier.isFinal(c.getModifiers()), "the class is public and final");
        Set<String> methods = new TreeSet<>();
        for (Method m : c.getDeclaredMethods()) {
            if (Modifier.isPublic(m.getModifiers())) {
                methods.add(signature(m));
                want(m.getReturnType() == int.class && !Modifier.isStatic(m.getModifiers()), m + " answers an int");
            } else {
                want(Modifier.isPrivate(m.getModifiers()), m + " is private");
            }
        }
        want(methods.equals(new TreeSet<>(Arrays.asList(FACE))), "the methods are those of the document: " + methods);
        Set<String> constants = new TreeSet<>();
        for (Field f : c.getDeclaredFields()) {
            if (Modifier.isPublic(f.getModifiers())) {
                constants.add(f.getName());
                want(Modifier.isStatic(f.getModifiers()) && Modifier.isFinal(f.getModifiers()), f + " is a constant");
            } else {
                want(Modifier.isPrivate(f.getModifiers()), f + " is private");
            }
            want(!Modifier.isStatic(f.getModifiers()) || Modifier.isFinal(f.getModifiers()), f + " is final");
        }
        want(constants.equals(new TreeSet<>(Arrays.asList(CONSTANTS))), "the constants are those of the document");
        Constructor<?>[] constructors = c.getDeclaredConstructors();
        want(constructors.length == 1 && constructors[0].getParameterCount() == 0, "there is one constructor");
    }

    private static void checkNestedClasses() {
        Class<?>[] nested = FiniteTerms.class.getDeclaredClasses();
        want(nested.length <= 11, "at most twelve classes");
        Set<String> names = new TreeSet<>();
        for (String face : FACE) {
            names.add(face.substring(0, face.indexOf('(')));
        }
        for (Class<?> c : nested) {
            want(Modifier.isStatic(c.getModifiers()), c + " is static");
            want(c.getDeclaredClasses().length == 0, c + " has no class inside");
            int fields = 0;
            for (Field f : c.getDeclaredFields()) {
                fields += Modifier.isStatic(f.getModifiers()) ? 0 : 1;
                want(!Modifier.isStatic(f.getModifiers()) || Modifier.isFinal(f.getModifiers()), f + " is final");
            }
            want(fields <= 20, c + " has at most twenty fields");
            for (Method m : c.getDeclaredMethods()) {
                want(m.getParameterCount() <= 7, m + " has at most seven parameters");
                want(!names.contains(m.getName()), m + " does not bear the name of a public method");
            }
        }
    }

    private static void checkSource(String source) {
        String code = source.replaceAll("(?s)/\\*.*?\\*/", " ").replaceAll("//[^\\n]*", " ").replaceAll("'(\\\\.|[^'])'", "0");
        String[] forbidden = {
            "\\b(throw|throws|try|catch|synchronized|assert|native|volatile|transient)\\b", "->", "::", "\\bnew\\s+\\w+\\s*\\(.*\\)\\s*\\{",
            "\\bObject\\b", "\\bhashCode\\b", "\\bequals\\b", "\\btoString\\b", "Exact\\b", "\\bSystem\\.(?!arraycopy)", "\"",
            "\\bpackage\\b", "\\bprotected\\b", "\\bstatic\\s*\\{", "[^\\x00-\\x7f]",
        };
        for (String pattern : forbidden) {
            Matcher m = Pattern.compile(pattern).matcher(code);
            want(!m.find(), "the source has no " + pattern);
        }
        Matcher imports = Pattern.compile("import\\s+([\\w.]+);").matcher(code);
        while (imports.find()) {
            want(imports.group(1).equals("java.util.Arrays"), "no import of " + imports.group(1));
        }
    }

    /** All calls of a run live in one room of 7.3 million elements: the constructor is the only call that takes any. */
    private static void checkRoom() {
        if (!(ManagementFactory.getThreadMXBean() instanceof com.sun.management.ThreadMXBean bean)
            || !bean.isThreadAllocatedMemorySupported()) {
            return;
        }
        use(new FiniteTerms(), 3);
        long id = Thread.currentThread().getId();
        long start = bean.getThreadAllocatedBytes(id);
        FiniteTerms object = new FiniteTerms();
        long made = bean.getThreadAllocatedBytes(id);
        use(object, 12);
        long used = bean.getThreadAllocatedBytes(id);
        want(made - start < 60_000, "an object takes less than 60,000 bytes, not " + (made - start));
        want(used - made < 2_000, "calls take no room, not " + (used - made) + " bytes");
    }

    private static void use(FiniteTerms x, int rounds) {
        for (int k = 1; k <= rounds; k++) {
            x.drift(40);
            x.tower(k % 2 + 1, k, 1, 1, 0);
            x.type('x');
            x.read(k % 3, k % 2);
            x.join(0, k % 4, 1, 2);
            x.join(2, 1, 2, 2);
            x.derive(1, 2);
            for (int f = 0; f < 3; f++) {
                x.told(f, f);
                x.asked(f, 3);
                x.integral(f, 0, 0, 0);
                x.left(f, 0, 0, 0);
                x.residue(f, 1);
                x.log(f, 0, 1, 0);
                x.pencil(f, 2, 0);
                x.part(f, 0, 1, 0);
                x.split(f, 0, 0, 0);
                x.letter(f, 0, 1);
                x.value(f, 0, k);
            }
            x.undo();
            x.image();
            x.restore();
            x.sheet(0, 3, 24);
            x.film(0, 0, 0, 3, 12);
            x.lay(1, 0, 0, 3, 12);
            x.seen(0, 3, 0, 8);
            x.copy(0, 0, 0, 1, 20);
            x.drop(0);
        }
    }
}
