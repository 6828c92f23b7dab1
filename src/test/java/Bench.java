import java.util.ArrayList;
import java.util.List;

/** What the tests of boundaries share: an object, ways to speak with it, and a way to see all of its state. */
final class Bench {
    static final int BAD = -1, NOT = -2, FULL = -3, NONE = -4, NULL = -11, CAST = -12, INDEX = -13, SIZE = -14;
    static final int MIN = Integer.MIN_VALUE, MAX = Integer.MAX_VALUE;

    private static int sentences = 0;
    private static int wrong = 0;
    private static String sentence = "";

    FiniteTerms x = new FiniteTerms();

    interface Test {
        void run(Bench b);
    }

    interface Scene {
        void play(Bench b);
    }

    interface Call {
        int on(FiniteTerms x);
    }

    interface Row {
        int at(int k);
    }

    // ---- sentences and what is due

    /** Runs the test of one sentence of the document on a new object. */
    static void sentence(String words, Test test) {
        sentence = words;
        sentences++;
        test.run(new Bench());
    }

    /** Ends the program, with 1 if an answer was not as due. */
    static void finish() {
        System.out.println(sentences + " sentences, " + (wrong == 0 ? "all hold" : wrong + " answers are not as due"));
        if (wrong != 0) {
            System.exit(1);
        }
    }

    static void due(int got, int want) {
        if (got != want) {
            complain("" + got, "" + want);
        }
    }

    static void due(String what, Object got, Object want) {
        if (!got.equals(want)) {
            complain(what + " is " + got, "" + want);
        }
    }

    private static void complain(String got, String want) {
        wrong++;
        StackTraceElement[] ways = new Throwable().getStackTrace();
        int k = 0;
        while (k < ways.length - 1 && ways[k].getClassName().equals("Bench")) {
            k++;
        }
        System.out.println("'" + sentence + "', line " + ways[k].getLineNumber() + ": " + got + ", due is " + want);
    }

    // ---- how tests speak with the object

    void renew() {
        x = new FiniteTerms();
    }

    void type(String text) {
        for (int k = 0; k < text.length(); k++) {
            x.type(text.charAt(k));
        }
    }

    int read(int f, int i, String text) {
        type(text);
        return x.read(f, i);
    }

    /** Sets a term, and complains if that is refused. */
    void set(int f, int i, String text) {
        int answer = read(f, i, text);
        if (answer < 1) {
            complain("reading " + text + " answers " + answer, "no error");
        }
    }

    String text(int f, int i) {
        StringBuilder s = new StringBuilder();
        int sign = x.letter(f, i, 0);
        while (sign >= 0 && s.length() < 200) {
            s.append((char) sign);
            sign = x.letter(f, i, s.length());
        }
        return s.toString();
    }

    void dueText(int f, int i, String want) {
        due("term " + i + " of function " + f, text(f, i), want);
    }

    /** A new object reads the text; its answer and the term are due. */
    void dueRead(String text, String want) {
        renew();
        due("answer to '" + text + "'", read(0, 0, text), want.length());
        due("value of '" + text + "'", text(0, 0), want);
    }

    /** A new object refuses to read the text. */
    void dueError(String text, int error) {
        renew();
        due("answer to '" + text + "'", read(0, 0, text), error);
    }

    /** Puts values into a sheet as of an index. */
    void fill(int sheet, int lane, int at, long... values) {
        for (int k = 0; k < values.length; k++) {
            due("item " + (at + k), x.item(sheet, lane, at + k, values[k]), 1);
        }
    }

    /** Lays a term by way of sheet 3: numerator and denominator, from x^0 up. */
    void lay(int f, int i, int[] above, int[] below) {
        x.sheet(3, 2, 12);
        for (int k = 0; k < above.length; k++) {
            x.item(3, 2, k, above[k]);
        }
        for (int k = 0; k < below.length; k++) {
            x.item(3, 2, 7 + k, below[k]);
        }
        due("lay", x.lay(f, i, 3, 2, 0), 1);
        x.drop(3);
    }

    static int[] row(int... c) {
        return c;
    }

    /** All coefficients of a polynomial are due, those beyond the degree too. */
    static void dueRow(String what, Row got, int... want) {
        for (int k = 0; k < want.length + 3; k++) {
            due(what + ", power " + k, got.at(k), k < want.length ? want[k] : 0);
        }
    }

    void dueTerm(int f, int i, int[] above, int[] below) {
        dueRow("numerator of " + f + "(" + i + ")", k -> x.coef(f, i, 0, k), above);
        dueRow("denominator of " + f + "(" + i + ")", k -> x.coef(f, i, 1, k), below);
    }

    /** An argument from least to greatest: the last ones that are allowed, and the first ones that are not. */
    static void dueRange(Row call, int least, int greatest) {
        for (int v : new int[] {least, greatest}) {
            if (call.at(v) == BAD) {
                complain("BAD for " + v, "another answer");
            }
        }
        for (int v : new int[] {least - 1, MIN}) {
            due("answer for " + v, call.at(v), BAD);
        }
        if (greatest < MAX) {
            due("answer for " + (greatest + 1), call.at(greatest + 1), BAD);
            due("answer for " + MAX, call.at(MAX), BAD);
        }
    }

    // ---- all that calls can tell of a state

    private static Bench after(Scene scene) {
        Bench b = new Bench();
        scene.play(b);
        return b;
    }

    /** Tells the state that a scene leaves; a new object is used for each question, so questions may destroy. */
    static List<Integer> state(Scene scene) {
        List<Integer> told = new ArrayList<>();
        for (int back = 0; back <= 7; back++) {
            Bench b = after(scene);
            undo(b, back, told);
            b.tellBoard(told);
            b = after(scene);
            told.add(b.x.restore());
            undo(b, back, told);
            b.tellBoard(told);
        }
        told.add(after(scene).x.type(' '));
        Bench reading = after(scene);
        told.add(reading.x.read(0, 0));
        reading.tellTerm(0, 0, told);
        for (int sheet = 0; sheet < 4; sheet++) {
            tellSheet(scene, sheet, told);
        }
        return told;
    }

    private static void undo(Bench b, int times, List<Integer> told) {
        for (int k = 0; k < times; k++) {
            told.add(b.x.undo());
        }
    }

    private void tellTerm(int f, int i, List<Integer> told) {
        for (int k = 0; k <= 7; k++) {
            told.add(x.coef(f, i, 0, k));
        }
        for (int k = 0; k <= 5; k++) {
            told.add(x.coef(f, i, 1, k));
        }
    }

    private void tellBoard(List<Integer> told) {
        for (int f = 0; f <= 2; f++) {
            for (int i = -2; i <= 2; i++) {
                tellTerm(f, i, told);
            }
        }
        for (int what = 0; what <= 5; what++) {
            told.add(x.count(what));
        }
        told.add(x.seed(0));
    }

    private static void tellSheet(Scene scene, int sheet, List<Integer> told) {
        int size = after(scene).x.drop(sheet);
        told.add(size);
        Bench b = after(scene);
        int lane = b.laneOf(sheet);
        told.add(lane);
        for (int k = 0; k < size; k++) {
            told.add(b.element(sheet, lane, k));
        }
    }

    /** Returns the lane of a sheet, or -1 if it is missing. */
    int laneOf(int sheet) {
        for (int lane = 0; lane <= 3; lane++) {
            if (x.item(sheet, lane, -1, 0) == INDEX) {
                return lane;
            }
        }
        return -1;
    }

    /** Returns an element, or NOT if it is not 0 to 100 (no call tells more); the sheet behind it and 0(0) are used. */
    int element(int sheet, int lane, int k) {
        int spare = (sheet + 1) % 4;
        x.sheet(spare, lane, 12);
        x.item(spare, lane, 7, 1);
        x.copy(sheet, k, spare, 0, 1);
        int answer = x.lay(0, 0, spare, lane, 0);
        return answer < 0 ? answer : x.coef(0, 0, 0, 0);
    }

    /** The elements of a sheet are due; NOT stands for one that is not 0 to 100. */
    void dueElements(int sheet, int lane, int... want) {
        for (int k = 0; k < want.length; k++) {
            due("element " + k + " of sheet " + sheet, element(sheet, lane, k), want[k]);
        }
    }

    /** The call is refused, and nothing changes. */
    static void dueRefusal(Scene scene, Call call, int error) {
        due("the answer", call.on(after(scene).x), error);
        dueSame(scene, b -> {
            scene.play(b);
            call.on(b.x);
        });
    }

    /** Two ways lead to the same state. */
    static void dueSame(Scene one, Scene other) {
        if (!state(one).equals(state(other))) {
            complain("the state is another one", "the same state");
        }
    }
}
