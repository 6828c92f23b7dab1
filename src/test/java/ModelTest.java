import java.lang.reflect.Method;
import java.util.ArrayList;
import java.util.HashMap;
import java.util.List;
import java.util.Map;
import java.util.Random;
import java.util.TreeMap;

/** Long runs of chosen and random calls, each answered by the class and by the model. */
public final class ModelTest {
    private static final int RUNS = Integer.getInteger("runs", 400);
    private static final int FIRST = Integer.getInteger("first", 1);
    private static final int CALLS = 512;
    private static final int[] EDGES = {
        -1, -2, -3, -4, 0, 1, 2, 3, 4, 5, 6, 8, 9, 12, 13, 24, 25, 31, 40, 41, 100, 101, 126, 127,
        Integer.MIN_VALUE, Integer.MAX_VALUE, Integer.MAX_VALUE - 1, Integer.MIN_VALUE + 1,
    };

    private static final Map<String, Method> FACE = new HashMap<>();
    private static final Map<String, Method> MODEL = new HashMap<>();
    private static final Map<String, Map<String, Integer>> SEEN = new TreeMap<>();

    private final Random random;
    private final FiniteTerms object = new FiniteTerms();
    private final Model model = new Model();
    private final List<String> history = new ArrayList<>();
    private final int[] pool;
    private int left = CALLS;
    private boolean wrong = false;

    private ModelTest(int seed) {
        random = new Random(seed);
        int[] roots = {0, 1, 2, 100};
        if (seed % 3 == 0) {
            for (int k = 0; k < roots.length; k++) {
                roots[k] = random.nextInt(101);
            }
        }
        pool = roots;
    }

    public static void main(String[] args) throws Exception {
        for (Method m : FiniteTerms.class.getDeclaredMethods()) {
            if (java.lang.reflect.Modifier.isPublic(m.getModifiers())) {
                FACE.put(m.getName(), m);
            }
        }
        for (Method m : Model.class.getDeclaredMethods()) {
            if (!java.lang.reflect.Modifier.isStatic(m.getModifiers()) && FACE.containsKey(m.getName())) {
                MODEL.put(m.getName(), m);
            }
        }
        int failures = 0;
        for (int seed = FIRST; seed < FIRST + RUNS && failures < 5; seed++) {
            ModelTest run = new ModelTest(seed);
            while (run.left > 0 && !run.wrong) {
                run.scene();
            }
            if (run.wrong) {
                failures++;
                System.out.println("run " + seed + ":");
                System.out.println(String.join("; ", run.history));
            }
        }
        if (Boolean.getBoolean("tell")) {
            SEEN.forEach((name, answers) -> System.out.println(name + " " + answers));
        }
        System.out.println(failures == 0 ? RUNS + " runs agree with the model" : failures + " runs differ");
        if (failures > 0) {
            System.exit(1);
        }
    }

    private int call(String name, long... args) {
        if (left <= 0 || wrong) {
            return 0;
        }
        left--;
        Method method = FACE.get(name);
        Object[] boxed = new Object[args.length];
        StringBuilder told = new StringBuilder(name).append('(');
        for (int k = 0; k < args.length; k++) {
            long v = random.nextInt(150) == 0 ? EDGES[random.nextInt(EDGES.length)] : args[k];
            boxed[k] = method.getParameterTypes()[k] == long.class ? (Object) v : (Object) (int) v;
            told.append(k > 0 ? "," : "").append(boxed[k]);
        }
        try {
            int got = (Integer) method.invoke(object, boxed);
            int want = (Integer) MODEL.get(name).invoke(model, boxed);
            history.add(told.append(") = ").append(got).toString());
            SEEN.computeIfAbsent(name, n -> new TreeMap<>()).merge(want < 0 ? want <= -20 ? "fault" : "" + want : "ok", 1, Integer::sum);
            if (got != want) {
                wrong = true;
                history.add("but the model answers " + want);
            }
            return want;
        } catch (ReflectiveOperationException e) {
            wrong = true;
            history.add(told.append(") throws ").append(e.getCause()).toString());
            return 0;
        }
    }

    private int upTo(int n) {
        return random.nextInt(n + 1);
    }

    private int function() {
        return upTo(2);
    }

    /** A term, more often one that the tower allows. */
    private int term() {
        int kind = call("count", 0);
        if (random.nextInt(8) == 0 || kind == 1) {
            return upTo(4) - 2;
        }
        return kind == 0 ? 0 : upTo(2);
    }

    private void scene() {
        switch (random.nextInt(24)) {
            case 0, 1, 2 -> readText();
            case 3, 4, 5 -> layTerm();
            case 6, 7 -> setTower();
            case 8, 9 -> call("join", function(), upTo(3), function(), function());
            case 10, 11 -> call("derive", function(), function());
            case 12 -> call("drift", random.nextInt(4) == 0 ? upTo(40) : 1 + upTo(2));
            case 13 -> history();
            case 14 -> useSheets();
            case 15 -> tellTerms();
            case 16 -> emptyFunction();
            case 17 -> pencils();
            case 18 -> anything();
            case 19 -> addMultipleOfSlope();
            default -> study(function());
        }
    }

    // ---- states

    private void readText() {
        String text = random.nextInt(4) == 0 ? brokenText() : text(random.nextInt(4));
        for (int k = 0; k < text.length() && k < 92; k++) {
            call("type", text.charAt(k));
        }
        call("read", function(), term());
    }

    private String text(int depth) {
        StringBuilder s = new StringBuilder(product(depth));
        for (int k = random.nextInt(3); k > 0; k--) {
            s.append(blank()).append(random.nextBoolean() ? '+' : '-').append(product(depth));
        }
        return s.toString();
    }

    private String product(int depth) {
        StringBuilder s = new StringBuilder(power(depth));
        for (int k = random.nextInt(3); k > 0; k--) {
            s.append(random.nextInt(3) > 0 ? '*' : '/').append(blank()).append(power(depth));
        }
        return s.toString();
    }

    private String power(int depth) {
        String atom;
        int choice = random.nextInt(depth > 0 ? 6 : 4);
        if (choice < 2) {
            atom = "x";
        } else if (choice == 2) {
            atom = "" + random.nextInt(random.nextBoolean() ? 5 : 1000);
        } else if (choice == 3) {
            atom = "(x+" + pool[random.nextInt(pool.length)] + ")";
        } else {
            atom = "(" + text(depth - 1) + ")";
        }
        return atom + (random.nextInt(4) == 0 ? blank() + "^" + random.nextInt(random.nextInt(5) == 0 ? 9 : 4) : "");
    }

    private String blank() {
        return random.nextInt(12) == 0 ? " " : "";
    }

    private String brokenText() {
        StringBuilder s = new StringBuilder(random.nextInt(6) == 0 ? "((((((((".substring(random.nextInt(4)) : "");
        s.append(text(random.nextInt(3)));
        for (int k = random.nextInt(3); k > 0 && s.length() > 0; k--) {
            int at = random.nextInt(s.length());
            char c = "0123456789x()+-*/^  y&~".charAt(random.nextInt(23));
            switch (random.nextInt(3)) {
                case 0 -> s.insert(at, c);
                case 1 -> s.setCharAt(at, c);
                default -> s.deleteCharAt(at);
            }
        }
        return s.toString();
    }

    private int[] factor() {
        return random.nextInt(4) > 0
            ? Model.poly(pool[random.nextInt(pool.length)], 1)
            : Model.poly(random.nextBoolean() ? 2 : random.nextInt(101), random.nextInt(2), 1);
    }

    private void layTerm() {
        int[] below = Model.poly(1 + random.nextInt(3));
        for (int tries = random.nextInt(6); tries > 0; tries--) {
            int[] next = Model.mul(below, Model.pow(factor(), 1 + random.nextInt(4)));
            below = Model.deg(next) <= 4 ? next : below;
        }
        int lane = upTo(3);
        int sheet = upTo(3);
        int at = upTo(12);
        call("sheet", sheet, lane, 24);
        int top = random.nextInt(7);
        for (int k = 0; k <= top; k++) {
            call("item", sheet, lane, at + k, random.nextInt(101));
        }
        for (int k = 0; k <= Model.deg(below); k++) {
            call("item", sheet, lane, at + 7 + k, below[k]);
        }
        call("lay", function(), term(), sheet, lane, at);
    }

    private void setTower() {
        int kind = upTo(2);
        if (kind == 0) {
            call("tower", 0, 0, 0, 0, random.nextInt(9) == 0 ? 1 : 0);
            return;
        }
        int[] u = Model.poly(1 + random.nextInt(3));
        while (Model.deg(u) < 1 || random.nextBoolean()) {
            int[] next = Model.mul(u, factor());
            if (Model.deg(next) > 3) {
                break;
            }
            u = next;
        }
        if (random.nextInt(5) == 0) {
            u = Model.poly(random.nextInt(101), random.nextInt(3), random.nextInt(3), random.nextInt(3));
        }
        call("tower", kind, Model.at(u, 0), Model.at(u, 1), Model.at(u, 2), Model.at(u, 3));
    }

    private void emptyFunction() {
        int f = function();
        call("join", f, 1, f, f);
    }

    /** Makes a logarithm of a logarithm integrable: a number times u' / u as a term. */
    private void addMultipleOfSlope() {
        int f = function();
        int g = (f + 1) % 3;
        int h = (f + 2) % 3;
        call("join", g, 1, g, g);
        call("type", '1' + random.nextInt(9));
        call("read", g, random.nextInt(4) - 1);
        call("derive", g, g);
        call("type", '1' + random.nextInt(9));
        call("join", h, 1, h, h);
        call("read", h, random.nextInt(3));
        call("join", g, 2, g, h);
        call("join", f, 0, f, g);
        study(f);
    }

    private void history() {
        switch (random.nextInt(6)) {
            case 0 -> call("image");
            case 1 -> call("restore");
            case 2 -> call("seed", random.nextInt(3) == 0 ? random.nextInt() : random.nextInt(1000));
            default -> {
                for (int k = random.nextInt(8); k >= 0; k--) {
                    call("undo");
                }
            }
        }
        call("count", 5);
    }

    private void useSheets() {
        for (int k = random.nextInt(12); k >= 0; k--) {
            int sheet = upTo(3);
            int lane = random.nextBoolean() ? 0 : upTo(3);
            switch (random.nextInt(7)) {
                case 0 -> call("sheet", sheet, lane, random.nextInt(28) - 2);
                case 1 -> call("drop", random.nextInt(3) == 0 ? sheet : 3);
                case 2 -> call("item", sheet, lane, random.nextInt(26) - 1, random.nextLong());
                case 3 -> call("copy", sheet, upTo(12), random.nextBoolean() ? sheet : upTo(3), upTo(12), upTo(14) - 1);
                case 4 -> call("film", function(), term(), sheet, lane, upTo(14));
                case 5 -> call("lay", function(), term(), sheet, lane, upTo(14));
                default -> findValues(sheet, lane);
            }
        }
    }

    private void findValues(int sheet, int lane) {
        int n = 1 + random.nextInt(3);
        call("sheet", sheet, lane, 2 * n + upTo(3));
        int f = function();
        int i = term();
        for (int k = 0; k < n; k++) {
            int x = random.nextInt(101);
            int y = call("value", f, i, x);
            call("item", sheet, lane, 2 * k, x);
            call("item", sheet, lane, 2 * k + 1, y);
        }
        call("seen", sheet, lane, upTo(1), n);
    }

    // ---- questions

    private void tellTerms() {
        int f = function();
        int i = term();
        for (int k = 0; k < 12; k++) {
            call("letter", f, i, k * 7 % 90);
        }
        for (int k = 0; k < 4; k++) {
            call("told", f, k);
            call("count", k + 1);
            call("value", f, i, pool[k]);
            call("coef", f, i, k % 2, upTo(7));
        }
        for (int m = 1; m <= 4; m++) {
            call("part", f, i, m, upTo(3));
            call("part", f, i, m, upTo(2));
        }
        for (int k = 0; k < 10; k++) {
            call("split", f, i, upTo(3), upTo(8));
        }
    }

    private void study(int f) {
        for (int what = 0; what <= 4; what++) {
            call("asked", f, what);
        }
        for (int k = 0; k < 12; k++) {
            call("integral", f, random.nextInt(6) - 2, upTo(1), upTo(10));
            call("left", f, term(), upTo(1), upTo(6));
        }
        for (int k = 0; k < 4; k++) {
            call("residue", f, upTo(9));
            call("log", f, upTo(4), upTo(1), upTo(3));
        }
    }

    private void pencils() {
        for (int k = 0; k < 3; k++) {
            call("pencil", function(), function(), upTo(1));
        }
    }

    private void anything() {
        String[] names = FACE.keySet().stream().sorted().toArray(String[]::new);
        for (int k = 0; k < 6; k++) {
            String name = names[random.nextInt(names.length)];
            long[] args = new long[FACE.get(name).getParameterCount()];
            for (int j = 0; j < args.length; j++) {
                args[j] = random.nextInt(4) == 0 ? EDGES[random.nextInt(EDGES.length)] : upTo(3);
            }
            call(name, args);
        }
    }
}
