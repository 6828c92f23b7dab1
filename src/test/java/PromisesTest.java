import java.util.function.Consumer;

/** For each promise of the document: ordinary inputs, the edges that it names, and wrong inputs. */
public final class PromisesTest {
    private static final int BAD = -1, NOT = -2, FULL = -3, NONE = -4, NULL = -11, CAST = -12, INDEX = -13, SIZE = -14;
    private static final int MIN = Integer.MIN_VALUE, MAX = Integer.MAX_VALUE;

    private static int wrong = 0;
    private static String promise = "";

    private FiniteTerms x = new FiniteTerms();

    public static void main(String[] args) {
        promise("constants", PromisesTest::constants);
        promise("examples", PromisesTest::examples);
        promise("1 a new object", PromisesTest::newObject);
        promise("2 coef", PromisesTest::coef);
        promise("3 letter", PromisesTest::letter);
        promise("4 value", PromisesTest::value);
        promise("5 told", PromisesTest::told);
        promise("6 count", PromisesTest::count);
        promise("7 type", PromisesTest::type);
        promise("8 read: values", PromisesTest::readValues);
        promise("8 read: faults", PromisesTest::readFaults);
        promise("8 read: errors", PromisesTest::readErrors);
        promise("9 tower", PromisesTest::tower);
        promise("10 join: sums", PromisesTest::joinSums);
        promise("10 join: products", PromisesTest::joinProducts);
        promise("10 join: quotients", PromisesTest::joinQuotients);
        promise("11 derive", PromisesTest::derive);
        promise("12 drift", PromisesTest::drift);
        promise("13 undo", PromisesTest::undo);
        promise("14 seed", PromisesTest::seed);
        promise("15 part", PromisesTest::part);
        promise("16 split", PromisesTest::split);
        promise("17 asked", PromisesTest::asked);
        promise("18 integral: plain and exponential", PromisesTest::integralExponential);
        promise("18 integral: logarithm", PromisesTest::integralLogarithm);
        promise("19 left", PromisesTest::left);
        promise("20 residue", PromisesTest::residue);
        promise("21 log", PromisesTest::log);
        promise("22 pencil", PromisesTest::pencil);
        promise("23 image", PromisesTest::image);
        promise("24 restore", PromisesTest::restore);
        promise("25 seen", PromisesTest::seen);
        promise("26 lay", PromisesTest::lay);
        promise("27 film", PromisesTest::film);
        promise("28 sheet", PromisesTest::sheet);
        promise("29 drop", PromisesTest::drop);
        promise("30 item", PromisesTest::item);
        promise("31 copy", PromisesTest::copy);
        System.out.println(wrong == 0 ? "all promises hold" : wrong + " answers are not as due");
        if (wrong != 0) {
            System.exit(1);
        }
    }

    private static void promise(String name, Consumer<PromisesTest> test) {
        promise = name;
        test.accept(new PromisesTest());
    }

    private static void due(String what, Object got, Object want) {
        if (!got.equals(want)) {
            wrong++;
            System.out.println(promise + ": " + what + " is " + got + ", due is " + want);
        }
    }

    private static void due(int got, int want) {
        if (got != want) {
            wrong++;
            StackTraceElement at = new Throwable().getStackTrace()[1];
            System.out.println(promise + ", line " + at.getLineNumber() + ": " + got + ", due is " + want);
        }
    }

    // ---- how the tests speak with the object

    private void renew() {
        x = new FiniteTerms();
    }

    private void typeAll(String text) {
        for (int k = 0; k < text.length(); k++) {
            x.type(text.charAt(k));
        }
    }

    private int readAll(int f, int i, String text) {
        typeAll(text);
        return x.read(f, i);
    }

    /** Sets a term, and complains if that fails. */
    private void set(int f, int i, String text) {
        int answer = readAll(f, i, text);
        if (answer < 0) {
            due("reading " + text, answer, "no error");
        }
    }

    private String text(int f, int i) {
        StringBuilder s = new StringBuilder();
        for (int k = 0; k < 200 && x.letter(f, i, k) >= 0; k++) {
            s.append((char) x.letter(f, i, k));
        }
        return s.toString();
    }

    private void dueText(int f, int i, String want) {
        due("term " + i + " of function " + f, text(f, i), want);
    }

    /** The text that reading gives: shows values and the order of evaluation. */
    private void dueRead(String text, String want) {
        renew();
        due("answer to " + text, readAll(0, 0, text), want.length());
        due("value of " + text, text(0, 0), want);
    }

    private void fill(int sheet, int lane, int at, long... values) {
        for (int k = 0; k < values.length; k++) {
            x.item(sheet, lane, at + k, values[k]);
        }
    }

    private interface Coefficient {
        int at(int k);
    }

    private static void dueRow(String what, Coefficient got, int... want) {
        for (int k = 0; k < want.length + 3; k++) {
            due(what + ", power " + k, got.at(k), k < want.length ? want[k] : 0);
        }
        due(what + ", greatest power", got.at(MAX), 0);
        due(what + ", power -1", got.at(-1), BAD);
        due(what + ", least power", got.at(MIN), BAD);
    }

    // ---- constants and examples

    private void constants() {
        due(FiniteTerms.BAD, BAD);
        due(FiniteTerms.NOT, NOT);
        due(FiniteTerms.FULL, FULL);
        due(FiniteTerms.NONE, NONE);
        due(FiniteTerms.NULL, NULL);
        due(FiniteTerms.CAST, CAST);
        due(FiniteTerms.INDEX, INDEX);
        due(FiniteTerms.SIZE, SIZE);
    }

    private void examples() {
        due(readAll(0, 0, "x/(x^2-1)"), 13);
        due(x.letter(0, 0, 1), 120);
        due(x.asked(0, 2), 1);
        due(x.log(0, 0, 0, 0), 51);
        due(x.log(0, 0, 1, 0), 100);
        due(x.value(0, 0, 1), NONE);

        renew();
        due(x.tower(1, 0, 1, 0, 0), 1);
        due(readAll(1, 1, "2*x"), 3);
        due(x.integral(1, 1, 0, 0), 99);
        due(x.derive(2, 1), 8);
        due(x.coef(2, 1, 0, 1), 2);
        due(x.pencil(1, 2, 0), 101);
        due(x.join(0, 2, 1, 1), 16);
        due(x.told(0, 0), 16);
        due(x.tower(2, 0, 1, 0, 0), 1);
        due(x.asked(0, 0), 1);
        due(x.undo(), 4);

        renew();
        typeAll("1/(");
        due(x.read(0, 3), BAD);
        due(x.read(0, 2), -23);
        due(x.read(0, 0), -20);
        due(x.join(0, 3, 1, 1), NOT);
        due(x.tower(0, 1, 0, 0, 0), BAD);
        due(x.tower(0, 0, 0, 0, 0), NOT);
        due(x.tower(1, 5, 0, 0, 0), NOT);
        due(x.sheet(0, 0, 12), 12);
        due(x.lay(0, 0, 0, 0, 0), NOT);
        due(x.lay(0, 0, 0, 1, 0), CAST);
        due(x.seen(0, 0, 9, 2), INDEX);
        due(x.drift(2), 1);
    }

    // ---- functions

    private void newObject() {
        for (int f = 0; f <= 2; f++) {
            for (int i = -2; i <= 2; i++) {
                dueText(f, i, "0");
                due(x.coef(f, i, 1, 0), 1);
            }
        }
        for (int what = 0; what <= 5; what++) {
            due(x.count(what), 0);
        }
        due(x.undo(), NONE);
        due(x.restore(), NONE);
        for (int sheet = 0; sheet <= 3; sheet++) {
            due(x.drop(sheet), NULL);
        }
        due(x.seed(7), 1);
        due(x.read(0, 0), -20);
        FiniteTerms other = new FiniteTerms();
        due(other.seed(3), 1);
        due(x.seed(9), 7);
    }

    private void coef() {
        set(1, -2, "(3*x^6+5*x+7)/(2*x^4+4)");
        dueRow("numerator", k -> x.coef(1, -2, 0, k), 54, 53, 0, 0, 0, 0, 52);
        dueRow("denominator", k -> x.coef(1, -2, 1, k), 2, 0, 0, 0, 1);
        dueRow("a 0", k -> x.coef(1, 2, 0, k));
        dueRow("the denominator of a 0", k -> x.coef(1, 2, 1, k), 1);
        int[][] bad = {{-1, 0, 0}, {3, 0, 0}, {0, -3, 0}, {0, 3, 0}, {0, 0, -1}, {0, 0, 2}, {MIN, 0, 0}, {0, MAX, 0}, {0, MIN, 0}};
        for (int[] b : bad) {
            due(x.coef(b[0], b[1], b[2], 0), BAD);
        }
    }

    private void letter() {
        String[] texts = {
            "0", "1", "100", "x", "2*x", "x^2", "11*x^6", "x+1", "x^6+100*x^5+x^4+99*x^3+12*x^2+10*x+1",
            "(1)/(x)", "(x)/(x+1)", "(2*x^2+1)/(x^4+x^3+7*x^2+x+100)",
        };
        for (String text : texts) {
            dueRead(text, text);
        }
        String longest = "(100*x^6+100*x^5+100*x^4+100*x^3+100*x^2+100*x+98)/(x^4+100*x^3+100*x^2+100*x+100)";
        x.sheet(0, 0, 12);
        fill(0, 0, 0, 98, 100, 100, 100, 100, 100, 100, 100, 100, 100, 100, 1);
        due(x.lay(2, 2, 0, 0, 0), 1);
        dueText(2, 2, longest);
        due(x.letter(2, 2, longest.length() - 1), ')');
        due(x.letter(2, 2, longest.length()), NONE);
        due(x.letter(2, 2, MAX), NONE);
        due(x.letter(2, 2, -1), BAD);
        due(x.letter(2, 2, MIN), BAD);
        due(x.letter(3, 2, 0), BAD);
        due(x.letter(-1, 2, 0), BAD);
        due(x.letter(2, 3, 0), BAD);
        due(x.letter(2, -3, 0), BAD);
    }

    private void value() {
        set(2, -1, "(x^2+3)/(x+1)");
        due(x.value(2, -1, 0), 3);
        due(x.value(2, -1, 1), 2);
        due(x.value(2, -1, 100), NONE);
        due(x.value(2, -1, 2), 36);
        due(x.value(2, -2, 100), 0);
        due(x.value(2, -1, 101), BAD);
        due(x.value(2, -1, -1), BAD);
        due(x.value(3, -1, 0), BAD);
        due(x.value(-1, -1, 0), BAD);
        due(x.value(2, 3, 0), BAD);
        due(x.value(2, -3, 0), BAD);
    }

    private void told() {
        set(1, -2, "1/x");
        set(1, 0, "2/x");
        set(1, 2, "x");
        due(x.told(1, 0), 0b10101);
        due(x.told(1, 1), 2);
        set(1, 1, "1/(x+1)");
        due(x.told(1, 0), 0b11101);
        due(x.told(1, 1), 3);
        due(x.told(0, 0), 0);
        due(x.told(0, 1), 1);
        due(x.told(0, 2), 0);
        due(x.told(1, 2), 1);
        due(x.told(2, 2), 0);
        x.join(2, 0, 1, 0);
        due(x.told(2, 2), 1);
        set(2, 0, "2/(x+1)");
        due(x.told(2, 2), 2);
        set(2, 0, "3/x");
        due(x.told(2, 2), 2);
        x.join(2, 0, 1, 0);
        set(2, -2, "2/x");
        due(x.told(2, 2), 2);
        x.join(2, 0, 1, 0);
        set(2, 2, "x^2");
        due(x.told(2, 2), 2);
        set(0, 1, "x^6");
        set(0, 2, "x^5");
        set(0, 0, "5");
        due(x.told(0, 1), 1);

        renew();
        set(0, 0, "x");
        set(1, 1, "x");
        set(2, -1, "x");
        int[][] fits = {{0, 1, 0, 0}, {1, 1, 1, 1}, {2, 1, 1, 0}};
        for (int[] row : fits) {
            x.tower(row[0], 0, row[0] == 0 ? 0 : 1, 0, 0);
            for (int f = 0; f <= 2; f++) {
                due("fit of " + f + " with kind " + row[0], x.told(f, 3), row[f + 1]);
            }
        }
        set(2, -1, "0");
        set(2, -2, "1");
        due(x.told(2, 3), 0);
        set(2, -2, "0");
        set(2, 2, "1");
        due(x.told(2, 3), 1);
        due(x.told(3, 0), BAD);
        due(x.told(-1, 0), BAD);
        due(x.told(0, 4), BAD);
        due(x.told(0, -1), BAD);
    }

    private void count() {
        x.tower(2, 9, 0, 7, 5);
        int[] want = {2, 9, 0, 7, 5, 1};
        for (int what = 0; what < want.length; what++) {
            due(x.count(what), want[what]);
        }
        x.tower(0, 0, 0, 0, 0);
        for (int what = 0; what < 5; what++) {
            due(x.count(what), 0);
        }
        due(x.count(5), 2);
        x.drift(40);
        due(x.count(5), 6);
        due(x.count(6), BAD);
        due(x.count(-1), BAD);
        due(x.count(MIN), BAD);
    }

    private void type() {
        due(x.type(31), BAD);
        due(x.type(127), BAD);
        due(x.type(MIN), BAD);
        due(x.type(MAX), BAD);
        due(x.type(32), 1);
        due(x.type(126), 2);
        for (int k = 3; k <= 90; k++) {
            due(x.type(' '), k);
        }
        due(x.type('x'), FULL);
        due(x.type(31), BAD);
        due(x.read(0, 0), -21);
        due(x.type('x'), 1);
    }

    private void readValues() {
        dueRead("0", "0");
        dueRead("101", "0");
        dueRead("999", "90");
        dueRead("007", "7");
        dueRead("x", "x");
        dueRead("2-5", "98");
        dueRead("10-3-4", "3");
        dueRead("2+3*4", "14");
        dueRead("(2+3)*4", "20");
        dueRead("8/4/2", "1");
        dueRead("8/4*2", "4");
        dueRead("2*x^3", "2*x^3");
        dueRead("(2*x)^3", "8*x^3");
        dueRead("0^0", "1");
        dueRead("x^0", "1");
        dueRead("2^8", "54");
        dueRead("12^2", "43");
        dueRead("1/x", "(1)/(x)");
        dueRead("1/(2*x)", "(51)/(x)");
        dueRead("(x^2-1)/(x-1)", "x+1");
        dueRead("x/(x^2-1)", "(x)/(x^2+100)");
        dueRead("x^6/x^4*x^4", "x^6");
        dueRead("1/x^4", "(1)/(x^4)");
        dueRead("1-1/x", "(x+100)/(x)");
        dueRead(" x  ^ 2 + 3 ", "x^2+3");
        dueRead("(x)^2", "x^2");
        dueRead("((((((x))))))", "x");
        dueRead("((((((x))))))*((((((x))))))", "x^2");
        dueRead("x-x", "0");
        dueRead("1+2*(1+2*(1+2*(1+2*(1+2*(1+2*(1+2*x))))))", "27*x+26");
        dueRead("((((((x+1)*2+1)*2+1)*2+1)*2+1)*2+1)*2", "64*x+25");
        dueRead("1/x+1/(x+1)", "(2*x+1)/(x^2+x)");
        due(readAll(2, 2, "x+5"), 3);
        dueText(2, 2, "x+5");
        due(x.count(5), 2);
    }

    private void dueFault(String text, int fault) {
        renew();
        due("answer to " + text, readAll(1, 1, text), -20 - fault);
        due("tape after " + text, x.type(' '), 1);
        due("tape", x.read(1, 1), -21);
        dueText(1, 1, "0");
        due("changes after " + text, x.count(5), 0);
    }

    private void readFaults() {
        dueFault("", 0);
        dueFault("   ", 3);
        dueFault("-x", 0);
        dueFault("+", 0);
        dueFault("1234", 3);
        dueFault("x+1234", 5);
        dueFault("1 2", 2);
        dueFault("12 34", 3);
        dueFault("x2", 1);
        dueFault("2x", 1);
        dueFault("xx", 1);
        dueFault("x(", 1);
        dueFault("x^9", 2);
        dueFault("x^23", 3);
        dueFault("x^2^3", 3);
        dueFault("x^2 3", 4);
        dueFault("x^x", 2);
        dueFault("x^", 2);
        dueFault("x^ ", 3);
        dueFault("x^-1", 2);
        dueFault("x+", 2);
        dueFault("x+ ", 3);
        dueFault("x++x", 2);
        dueFault("x*/x", 2);
        dueFault("x)", 1);
        dueFault("(x))", 3);
        dueFault("(x", 2);
        dueFault("(x ", 3);
        dueFault("()", 1);
        dueFault("(", 1);
        dueFault("(((((((x", 6);
        dueFault("((((((x))))))*(((((((", 20);
        dueFault("y", 0);
        dueFault("X", 0);
        dueFault("x~", 1);
        dueFault(" x ?", 3);
        dueFault("1/0+", 4);
        dueFault("x^8*?", 4);
    }

    private void dueError(String text, int error) {
        renew();
        set(0, 0, "3");
        due("answer to " + text, readAll(0, 0, text), error);
        due("tape after " + text, x.type('5'), 1);
        due("changes after " + text, x.count(5), 1);
        dueText(0, 0, "3");
        due("reading what was typed since", x.read(0, 0), 1);
        dueText(0, 0, "5");
    }

    private void readErrors() {
        dueError("1/0", NOT);
        dueError("1/101", NOT);
        dueError("x/(x-x)", NOT);
        dueError("0/0", NOT);
        dueError("x^7", FULL);
        dueError("x^8", FULL);
        dueError("x^6*x", FULL);
        dueError("x^6*x/x", FULL);
        dueError("1/x^5", FULL);
        dueError("1/x^4/x", FULL);
        dueError("1/x^4+1/(x+1)", FULL);
        dueError("x^6*x-1/0", FULL);
        dueError("1/0-x^7", NOT);
        dueError("x^7/0", FULL);
        dueError("1/(0*x^7)", FULL);
        dueError("(x^4)^2", FULL);
        dueError("(1/x)^5", FULL);
        typeAll("x");
        due(x.read(3, 0), BAD);
        due(x.read(-1, 0), BAD);
        due(x.read(0, 3), BAD);
        due(x.read(0, -3), BAD);
        due(x.read(0, 1), 1);
        dueText(0, 1, "x");
    }

    private void tower() {
        due(x.tower(1, 0, 1, 0, 0), 1);
        due(x.tower(1, 0, 1, 0, 0), NOT);
        due(x.tower(2, 0, 1, 0, 0), 1);
        due(x.tower(2, 1, 1, 0, 0), 1);
        due(x.tower(2, 1, 1, 100, 0), 2);
        due(x.tower(2, 1, 1, 1, 100), 3);
        due(x.tower(2, 0, 0, 0, 1), 3);
        due(x.tower(2, 0, 0, 0, 1), NOT);
        due(x.tower(2, 7, 0, 0, 0), NOT);
        due(x.tower(1, 0, 0, 0, 0), NOT);
        due(x.tower(0, 0, 0, 1, 0), BAD);
        due(x.tower(0, 0, 0, 0, 1), BAD);
        due(x.tower(0, 0, 1, 0, 0), BAD);
        due(x.tower(0, 1, 0, 0, 0), BAD);
        due(x.count(0), 2);
        due(x.tower(0, 0, 0, 0, 0), 0);
        due(x.tower(0, 0, 0, 0, 0), NOT);
        due(x.count(0), 0);
        due(x.tower(3, 0, 1, 0, 0), BAD);
        due(x.tower(-1, 0, 1, 0, 0), BAD);
        due(x.tower(1, 101, 1, 0, 0), BAD);
        due(x.tower(1, -1, 1, 0, 0), BAD);
        due(x.tower(1, 0, 101, 0, 0), BAD);
        due(x.tower(1, 0, -1, 0, 0), BAD);
        due(x.tower(1, 0, 1, 101, 0), BAD);
        due(x.tower(1, 0, 1, -1, 0), BAD);
        due(x.tower(1, 0, 1, 0, 101), BAD);
        due(x.tower(1, 0, 1, 0, -1), BAD);
        due(x.count(5), 6);
        renew();
        set(0, -1, "x");
        x.tower(2, 0, 1, 0, 0);
        dueText(0, -1, "x");
        due(x.count(5), 2);
    }

    private void joinSums() {
        set(0, -1, "1/x");
        set(0, 2, "x");
        set(1, -1, "1/(x+1)");
        set(1, 0, "5");
        due(x.join(2, 0, 0, 1), 0b10110);
        dueText(2, -1, "(2*x+1)/(x^2+x)");
        dueText(2, 0, "5");
        dueText(2, 2, "x");
        due(x.join(2, 1, 0, 1), 0b10110);
        dueText(2, -1, "(1)/(x^2+x)");
        dueText(2, 0, "96");
        due(x.join(0, 1, 0, 0), 0);
        due(x.join(0, 1, 0, 1), 0b00110);
        dueText(0, 0, "96");
        set(0, 1, "1/x^4");
        set(1, 1, "1/(x+1)");
        int changes = x.count(5);
        due(x.join(0, 0, 0, 1), FULL);
        dueText(0, 0, "96");
        due(x.count(5), changes);
        int[][] bad = {{3, 0, 0, 0}, {-1, 0, 0, 0}, {0, 4, 0, 0}, {0, -1, 0, 0}, {0, 0, 3, 0}, {0, 0, -1, 0}, {0, 0, 0, 3}, {0, 0, 0, -1}, {0, 3, 0, -1}};
        for (int[] b : bad) {
            due(x.join(b[0], b[1], b[2], b[3]), BAD);
        }
    }

    private void joinProducts() {
        set(0, -1, "1/x");
        set(0, 1, "x");
        due(x.join(1, 2, 0, 0), 0b10101);
        dueText(1, -2, "(1)/(x^2)");
        dueText(1, 0, "2");
        dueText(1, 2, "x^2");
        due(x.join(2, 2, 0, 1), FULL);
        due(x.told(2, 0), 0);
        // What does not fit may vanish in the sum: (x*t^2 + t) * (t^2 + c*t) has t^3 * (c*x + 1) and t^4 * x.
        renew();
        set(0, 1, "1");
        set(0, 2, "x");
        set(1, 1, "0-x");
        set(1, 2, "x^2");
        due(x.join(2, 2, 0, 1), FULL);
        renew();
        set(0, 0, "x");
        set(0, 2, "1");
        set(1, 1, "1");
        set(1, -1, "100*x");
        due(x.join(2, 2, 0, 1), FULL);
        set(0, 2, "0");
        due(x.join(0, 2, 0, 1), 0b01010);
        dueText(0, -1, "100*x^2");
        dueText(0, 1, "x");
        // t^0: 1/x^4 * 1/(x+1)^4 twice with opposite signs, which is too big only in between.
        renew();
        set(0, 1, "1/x^4");
        set(0, -1, "1/x^4");
        set(1, 1, "1/(x+1)^4");
        set(1, -1, "100/(x+1)^4");
        due(x.join(2, 2, 0, 1), FULL);
        renew();
        set(0, 1, "x^6");
        set(0, 0, "x^6");
        set(1, -1, "x");
        set(1, 0, "100*x");
        due(x.join(2, 2, 0, 1), FULL);
        set(0, 1, "x^5");
        set(0, 0, "x^5");
        due(x.join(2, 2, 0, 1), 0b01010);
        dueText(2, -1, "x^6");
        dueText(2, 1, "100*x^6");
    }

    private void joinQuotients() {
        set(0, -2, "x");
        set(0, 1, "x^2");
        set(1, 1, "2*x");
        due(x.join(2, 3, 0, 1), FULL);
        set(0, -2, "0");
        set(0, -1, "x");
        due(x.join(2, 3, 0, 1), 0b00101);
        dueText(2, -2, "51");
        dueText(2, 0, "51*x");
        set(1, 0, "1");
        due(x.join(2, 3, 0, 1), NOT);
        due(x.join(2, 3, 0, 0), NOT);
        renew();
        due(x.join(2, 3, 0, 1), NOT);
        set(1, -2, "x^4");
        due(x.join(0, 3, 0, 1), 0);
        set(0, 0, "1/x");
        due(x.join(0, 3, 0, 1), FULL);
        set(0, 0, "x");
        due(x.join(1, 3, 0, 1), 0b10000);
        dueText(1, 2, "(1)/(x^3)");
        set(0, 0, "x^3+1");
        set(1, 2, "0");
        set(1, 0, "x^6");
        due(x.join(1, 3, 0, 1), FULL);
        due(x.join(1, 3, 1, 1), 0b00100);
        dueText(1, 0, "1");
        for (int side : new int[] {-2, 2}) {
            renew();
            set(0, side, "x");
            set(1, -side, "x");
            due(x.join(2, 3, 0, 1), FULL);
            due(x.join(2, 3, 0, 0), 0b00100);
            set(1, -side, "0");
            set(1, -side / 2, "x");
            due(x.join(2, 3, 0, 1), FULL);
        }
    }

    private void derive() {
        set(0, 0, "(x^3+1)/x");
        due(x.derive(1, 0), 0b00100);
        dueText(1, 0, "(2*x^3+100)/(x^2)");
        due(x.derive(1, 2), 0);
        set(0, 0, "1/x^4");
        int changes = x.count(5);
        due(x.derive(1, 0), FULL);
        due(x.count(5), changes);
        set(0, 1, "x");
        due(x.derive(1, 0), NOT);
        set(0, 0, "3");

        x.tower(1, 0, 0, 1, 0);
        due(x.derive(0, 0), 0b01000);
        dueText(0, 1, "2*x^2+1");
        dueText(0, 0, "0");
        set(0, -2, "x");
        set(0, 2, "1/x");
        set(0, 1, "0");
        due(x.derive(1, 0), 0b10001);
        dueText(1, -2, "97*x^2+1");
        dueText(1, 2, "(4*x^2+100)/(x^2)");
        set(0, 1, "x^6");
        due(x.derive(1, 0), FULL);

        renew();
        x.tower(2, 1, 0, 1, 0);
        set(0, 2, "1");
        due(x.derive(1, 0), 0b01000);
        dueText(1, 1, "(4*x)/(x^2+1)");
        set(0, 2, "x");
        set(0, 1, "x^2+1");
        due(x.derive(0, 0), 0b11100);
        dueText(0, 2, "1");
        dueText(0, 1, "(2*x^3+4*x^2+2*x)/(x^2+1)");
        dueText(0, 0, "2*x");
        set(0, -1, "1");
        due(x.derive(1, 0), NOT);
        due(x.derive(0, 3), BAD);
        due(x.derive(3, 0), BAD);
        due(x.derive(-1, 0), BAD);
        due(x.derive(0, -1), BAD);
    }

    private static long draw(long[] random) {
        random[0] = (random[0] * 1103515245L + 12345L) % 2147483648L;
        return random[0] / 65536;
    }

    private void drift() {
        for (int start : new int[] {1, 0, 12345, MAX}) {
            renew();
            x.seed(start);
            long[] random = {start};
            for (int turn = 0; turn < 30; turn++) {
                int v = (int) draw(random);
                int w = (int) draw(random);
                int z = (int) draw(random);
                x.drift(1);
                int f = v % 3;
                int i = v / 4 % 5 - 2;
                for (int at = 0; at <= 100; at += 9) {
                    int above = (w % 101 + w / 101 % 101 * at + w / 10201 * at * at) % 101;
                    int below = 1;
                    for (int k = 0; k < z % 4; k++) {
                        below = below * (at + z / 4 % 101) % 101;
                    }
                    int got = x.value(f, i, at);
                    due("value after turn " + turn, got == NONE ? 0 : got * below % 101, got == NONE ? below : above);
                }
                due("random number", x.seed((int) random[0]), (int) random[0]);
            }
        }
        renew();
        due(x.drift(2), 1);
        due(x.count(5), 2);
        FiniteTerms one = new FiniteTerms();
        one.drift(1);
        one.drift(1);
        for (int f = 0; f <= 2; f++) {
            due(one.told(f, 0), x.told(f, 0));
        }
        due(x.drift(0), BAD);
        due(x.drift(41), BAD);
        due(x.drift(-1), BAD);
        due(x.drift(MAX), BAD);
        due(x.count(5), 2);
        due(x.drift(40), 0);
        due(x.count(5), 6);
        x.tower(1, 0, 1, 0, 0);
        due(x.drift(1), 7);
    }

    private void undo() {
        due(x.undo(), NONE);
        set(0, 0, "x");
        x.seed(77);
        due(x.undo(), 0);
        dueText(0, 0, "0");
        due(x.seed(1), 1);
        due(x.undo(), NONE);

        for (int k = 1; k <= 8; k++) {
            set(0, 0, "" + k);
        }
        for (int k = 5; k >= 0; k--) {
            due(x.undo(), k);
            dueText(0, 0, "" + (k + 2));
        }
        due(x.undo(), NONE);
        dueText(0, 0, "2");

        renew();
        x.tower(2, 1, 2, 3, 4);
        x.tower(1, 4, 3, 2, 1);
        x.undo();
        due(x.count(0), 2);
        due(x.count(1), 1);
        due(x.count(4), 4);
        x.undo();
        due(x.count(0), 0);
        due(x.count(1), 0);

        renew();
        x.drift(3);
        x.undo();
        int second = x.seed(0);
        renew();
        x.drift(2);
        due(x.seed(0), second);

        renew();
        set(0, 1, "x");
        x.join(1, 0, 0, 0);
        x.tower(1, 0, 1, 0, 0);
        x.derive(2, 1);
        x.sheet(0, 2, 12);
        fill(0, 2, 0, 9, 0, 0, 0, 0, 0, 0, 1);
        x.lay(2, 0, 0, 2, 0);
        due(x.count(5), 5);
        typeAll("x*");
        x.undo();
        dueText(2, 0, "0");
        x.undo();
        dueText(2, 1, "0");
        x.undo();
        due(x.count(0), 0);
        x.undo();
        dueText(1, 1, "0");
        due(x.type('x'), 3);
        due(x.drop(0), 12);
        due(x.read(1, 1), 3);
        due(x.count(5), 2);
    }

    private void seed() {
        due(x.seed(0), 1);
        due(x.seed(MAX), 0);
        due(x.seed(-1), BAD);
        due(x.seed(MIN), BAD);
        due(x.seed(5), MAX);
        due(x.count(5), 0);
        due(x.undo(), NONE);
    }

    // ---- integrals

    private void part() {
        set(0, 1, "x^2/((x+1)^3*(x+2))");
        dueRow("once", k -> x.part(0, 1, 1, k), 2, 1);
        dueRow("twice", k -> x.part(0, 1, 2, k), 1);
        dueRow("three times", k -> x.part(0, 1, 3, k), 1, 1);
        dueRow("four times", k -> x.part(0, 1, 4, k), 1);
        set(0, 1, "1/(x^2+2)^2");
        dueRow("a quadratic once", k -> x.part(0, 1, 1, k), 1);
        dueRow("a quadratic twice", k -> x.part(0, 1, 2, k), 2, 0, 1);
        set(0, 1, "1/(x*(x+1))^2");
        dueRow("two linear ones", k -> x.part(0, 1, 2, k), 0, 1, 1);
        set(0, 1, "1/(x*(x+1)*(x^2+2))");
        dueRow("all once", k -> x.part(0, 1, 1, k), 0, 2, 2, 1, 1);
        set(0, 1, "1/(x+7)^4");
        dueRow("four", k -> x.part(0, 1, 4, k), 7, 1);
        dueRow("not three", k -> x.part(0, 1, 3, k), 1);
        dueRow("none", k -> x.part(0, 0, 1, k), 1);
        due(x.part(0, 0, 0, 0), BAD);
        due(x.part(0, 0, 5, 0), BAD);
        due(x.part(3, 0, 1, 0), BAD);
        due(x.part(-1, 0, 1, 0), BAD);
        due(x.part(0, 3, 1, 0), BAD);
        due(x.part(0, -3, 1, 0), BAD);
    }

    private void dueSplit(String text, int[] qn, int[] qd, int[] rn, int[] rd) {
        renew();
        set(1, -2, text);
        dueRow(text + ": numerator of q", k -> x.split(1, -2, 0, k), qn);
        dueRow(text + ": denominator of q", k -> x.split(1, -2, 1, k), qd);
        dueRow(text + ": numerator of r", k -> x.split(1, -2, 2, k), rn);
        dueRow(text + ": denominator of r", k -> x.split(1, -2, 3, k), rd);
    }

    private static int[] row(int... c) {
        return c;
    }

    private void split() {
        dueSplit("0", row(), row(1), row(), row(1));
        dueSplit("2*x+3", row(0, 3, 1), row(1), row(), row(1));
        dueSplit("7*x^6", row(0, 0, 0, 0, 0, 0, 0, 1), row(1), row(), row(1));
        dueSplit("1/x", row(), row(1), row(1), row(0, 1));
        dueSplit("(0-1)/x^2", row(1), row(0, 1), row(), row(1));
        dueSplit("(0-3)/x^4", row(1), row(0, 0, 0, 1), row(), row(1));
        dueSplit("(x^2+3)/(x+1)^2", row(97, 1, 1), row(1, 1), row(99), row(1, 1));
        // (x / (x^2 + 2))' is (2 - x^2) / (x^2 + 2)^2.
        dueSplit("(2-x^2)/(x^2+2)^2", row(0, 1), row(2, 0, 1), row(), row(1));
        // 1 / (x^2 + 2)^2 is (x / (4 * (x^2 + 2)))' + 1 / (4 * (x^2 + 2)).
        dueSplit("1/(x^2+2)^2", row(0, 76), row(2, 0, 1), row(76), row(2, 0, 1));
        // 1/x^3 + 1/(x+1)^2 + 1/x has q = -1/(2*x^2) - 1/(x+1) and r = 1/x.
        dueSplit("1/x^3+1/x", row(50), row(0, 0, 1), row(1), row(0, 1));
        due(x.split(1, -2, 4, 0), BAD);
        due(x.split(1, -2, -1, 0), BAD);
        due(x.split(3, -2, 0, 0), BAD);
        due(x.split(-1, -2, 0, 0), BAD);
        due(x.split(1, 3, 0, 0), BAD);
        due(x.split(1, -3, 0, 0), BAD);
    }

    private void dueAsked(int f, int... want) {
        for (int what = 0; what < want.length; what++) {
            due("property " + what + " of " + f, x.asked(f, what), want[what]);
        }
        due(x.asked(f, 5), BAD);
        due(x.asked(f, -1), BAD);
    }

    private void asked() {
        dueAsked(0, 1, NONE, 0, 0, 0);
        set(0, 0, "1/(x^2+1)");
        dueAsked(0, 1, NONE, 2, 0, 2);
        set(0, 0, "1/(x^2+2)");
        dueAsked(0, 1, NONE, 0, 2, 2);
        set(0, 0, "2*x/(x^2+2)");
        dueAsked(0, 1, NONE, 1, 0, 2);
        set(0, 0, "1/(x^2+2)+3/x+3/(x+1)");
        dueAsked(0, 1, NONE, 1, 2, 4);
        set(0, 1, "1/x");
        dueAsked(0, NOT, NOT, NOT, NOT, NOT);
        x.tower(1, 0, 1, 0, 0);
        dueAsked(0, 0, 3, 1, 2, 4);
        set(0, 2, "1/x");
        dueAsked(0, 0, 4, 1, 2, 4);
        set(0, 1, "0");
        set(0, 2, "x");
        dueAsked(0, 1, NONE, 1, 2, 4);
        set(0, -2, "1/x");
        dueAsked(0, 0, 0, 1, 2, 4);
        set(0, -1, "1/x");
        dueAsked(0, 0, 1, 1, 2, 4);

        x.tower(2, 0, 1, 0, 0);
        dueAsked(0, NOT, NOT, NOT, NOT, NOT);
        set(1, 2, "1/x");
        set(1, 1, "2/x");
        set(1, 0, "3/x");
        dueAsked(1, 1, NONE, 1, 0, 1);
        set(1, 2, "1/(x+1)");
        dueAsked(1, 0, 4, 1, 0, 1);
        set(1, 1, "1/(x+1)");
        dueAsked(1, 0, 4, 1, 0, 1);
        set(1, 2, "0");
        dueAsked(1, 0, 3, 1, 0, 1);
        due(x.asked(3, 0), BAD);
        due(x.asked(-1, 0), BAD);
    }

    private void dueIntegral(int f, int i, int[] num, int[] den) {
        dueRow("numerator of part " + i, k -> x.integral(f, i, 0, k), num);
        dueRow("denominator of part " + i, k -> x.integral(f, i, 1, k), den);
    }

    private void badIntegral(int f) {
        due(x.integral(3, 0, 0, 0), BAD);
        due(x.integral(-1, 0, 0, 0), BAD);
        due(x.integral(f, 4, 0, 0), BAD);
        due(x.integral(f, -3, 0, 0), BAD);
        due(x.integral(f, 0, 2, 0), BAD);
        due(x.integral(f, 0, -1, 0), BAD);
        due(x.integral(f, 0, 0, -1), BAD);
    }

    private void integralExponential() {
        set(0, 0, "3*x^2+1-1/x^2+5/x");
        dueIntegral(0, 0, row(1, 0, 1, 0, 1), row(0, 1));
        dueIntegral(0, 3, row(), row(1));
        dueIntegral(0, -2, row(), row(1));
        badIntegral(0);
        // With t the exponential of x^2: (1/x * t)' is (2 - 1/x^2) * t.
        x.tower(1, 0, 0, 1, 0);
        set(0, 1, "2-1/x^2");
        dueIntegral(0, 1, row(1), row(0, 1));
        dueIntegral(0, 0, row(1, 0, 1, 0, 1), row(0, 1));
        // (x * t^-2)' is (1 - 4 * x^2) * t^-2.
        set(0, -2, "1-4*x^2");
        dueIntegral(0, -2, row(0, 1), row(1));
        dueIntegral(0, 3, row(), row(1));
        set(0, 2, "1");
        due(x.integral(0, 0, 0, 0), NONE);
        badIntegral(0);
        x.tower(0, 0, 0, 0, 0);
        due(x.integral(0, 0, 0, 0), NOT);
        badIntegral(0);
        // With t the exponential of 5 * x, (1/5) * t is an integral of t, and (x/5 - 1/25) * t one of x * t.
        x.tower(1, 0, 5, 0, 0);
        set(1, 1, "x");
        dueIntegral(1, 1, row(4, 81), row(1));
        // The square of a cubic's exponential: u' is 3 * x^2, so x^2 * t^2 has t^2 / 6.
        x.tower(1, 9, 0, 0, 1);
        set(2, 2, "x^2");
        dueIntegral(2, 2, row(17), row(1));
    }

    private void integralLogarithm() {
        // With t the logarithm of x: t^2 has x * t^2 - 2 * x * t + 2 * x.
        x.tower(2, 0, 1, 0, 0);
        set(0, 2, "1");
        dueIntegral(0, 2, row(0, 1), row(1));
        dueIntegral(0, 1, row(0, 99), row(1));
        dueIntegral(0, 0, row(0, 2), row(1));
        dueIntegral(0, 3, row(), row(1));
        // (t^3)' is 3 * t^2 / x, and (t^2)' is 2 * t / x.
        set(0, 2, "3/x");
        set(0, 1, "4/x+1");
        dueIntegral(0, 3, row(1), row(1));
        dueIntegral(0, 2, row(2), row(1));
        dueIntegral(0, 1, row(0, 1), row(1));
        dueIntegral(0, 0, row(0, 100), row(1));
        badIntegral(0);
        // t / x^2 has -t / x - 1 / x.
        set(1, 1, "1/x^2");
        dueIntegral(1, 1, row(100), row(0, 1));
        dueIntegral(1, 0, row(100), row(0, 1));
        set(1, 2, "1/(x+1)");
        due(x.integral(1, 1, 0, 0), NONE);
        due(x.integral(1, 3, 1, 0), NONE);
        badIntegral(1);
        // A function without t after one whose integral has t^3.
        due(x.integral(0, 3, 0, 0), 1);
        dueRow("rest 2 of a 0", k -> x.left(2, 2, 0, k));
        due(x.integral(0, 3, 0, 0), 1);
        due(x.tower(2, 1, 1, 0, 0), 1);
        dueRow("rest 2 of a 0", k -> x.left(2, 2, 0, k));
        due(x.asked(2, 0), 1);
        // u with a square: u' / u is 2 / x for u = x^2.
        x.tower(2, 0, 0, 1, 0);
        set(2, 1, "1/x");
        dueIntegral(2, 2, row(76), row(1));
        set(2, -2, "1");
        due(x.integral(2, 0, 0, 0), NOT);
        badIntegral(2);
    }

    private void left() {
        set(0, 0, "1/(x+1)+2/x^2+x");
        dueRow("rest", k -> x.left(0, 0, 0, k), 1);
        dueRow("its denominator", k -> x.left(0, 0, 1, k), 1, 1);
        dueRow("rest 2", k -> x.left(0, 2, 0, k));
        dueRow("denominator of rest -2", k -> x.left(0, -2, 1, k), 1);
        x.tower(1, 0, 0, 1, 0);
        // x^2 is (x/2)' + 2 * x * (x/2) - 1/2.
        set(0, 1, "x^2");
        dueRow("rest 1", k -> x.left(0, 1, 0, k), 50);
        dueRow("denominator of rest 1", k -> x.left(0, 1, 1, k), 1);
        due(x.asked(0, 0), 0);
        // 1/x^2 is (-1/x)' - 4 * x * (-1/x) - 4 for the term -2.
        set(0, -2, "1/x^2");
        dueRow("rest -2", k -> x.left(0, -2, 0, k), 97);
        x.tower(1, 0, 0, 0, 1);
        // By 3 * x^2 only less than its degree stays: x^3 is (x/3)' + x^3 - 1/3.
        set(0, 1, "x^3+x+1/x");
        dueRow("rest of a cubic", k -> x.left(0, 1, 0, k), 1, 67, 1);
        dueRow("its denominator", k -> x.left(0, 1, 1, k), 0, 1);
        x.tower(2, 0, 1, 0, 0);
        due(x.left(0, 0, 0, 0), NOT);
        set(1, 1, "3/x");
        set(1, 0, "1/(x+5)");
        dueRow("rest 1 of a logarithm", k -> x.left(1, 1, 0, k), 3);
        dueRow("its denominator", k -> x.left(1, 1, 1, k), 0, 1);
        dueRow("rest 0 of a logarithm", k -> x.left(1, 0, 1, k), 5, 1);
        due(x.left(3, 0, 0, 0), BAD);
        due(x.left(-1, 0, 0, 0), BAD);
        due(x.left(0, 3, 0, 0), BAD);
        due(x.left(0, -3, 0, 0), BAD);
        due(x.left(0, 0, 2, 0), BAD);
        due(x.left(0, 0, -1, 0), BAD);
    }

    private void residue() {
        dueRow("of 0", k -> x.residue(0, k), 1);
        set(0, 0, "3/x+5/(x+1)+x/(x+2)^2");
        // The residues are 3, 5 and 1.
        dueRow("of three", k -> x.residue(0, k), 86, 23, 92, 1);
        set(0, 0, "3/x+3/(x+1)");
        dueRow("of two alike", k -> x.residue(0, k), 9, 95, 1);
        // At the zeros of x^2 + 2 the residues are 1 / (2 * zero), so R is z^2 + 1/8.
        set(0, 0, "1/(x^2+2)");
        dueRow("of a quadratic", k -> x.residue(0, k), 38, 0, 1);
        set(0, 0, "7*x+1/x^2");
        dueRow("without a rest", k -> x.residue(0, k), 1);
        set(0, 1, "1");
        due(x.residue(0, 0), NOT);
        due(x.residue(0, -1), BAD);
        due(x.residue(3, 0), BAD);
        due(x.residue(-1, 0), BAD);
        // A logarithm brings zeros of u into r(0): t * 2 * x has - u'/u * x^2 there.
        x.tower(2, 1, 0, 1, 0);
        set(1, 1, "2*x");
        dueRow("with a logarithm", k -> x.residue(1, k), 1, 99, 1);
    }

    private void log() {
        set(0, 0, "9/x+9/(x+3)+4/(x+1)+x+1/x^2");
        due(x.log(0, 0, 0, 0), 4);
        due(x.log(0, 0, 0, MAX), 4);
        dueRow("v of 4", k -> x.log(0, 0, 1, k), 1, 1);
        due(x.log(0, 1, 0, 0), 9);
        dueRow("v of 9", k -> x.log(0, 1, 1, k), 0, 3, 1);
        due(x.log(0, 2, 0, 0), NONE);
        due(x.log(0, 2, 1, 0), NONE);
        due(x.log(0, MAX, 0, 0), NONE);
        set(1, 0, "1/(x^2+2)");
        due(x.log(1, 0, 0, 0), NONE);
        set(1, 0, "100/(x+50)");
        due(x.log(1, 0, 0, 0), 100);
        dueRow("v of 100", k -> x.log(1, 0, 1, k), 50, 1);
        due(x.log(0, -1, 0, 0), BAD);
        due(x.log(0, MIN, 0, 0), BAD);
        due(x.log(0, 0, 2, 0), BAD);
        due(x.log(0, 0, -1, 0), BAD);
        due(x.log(0, 0, 0, -1), BAD);
        due(x.log(3, 0, 0, 0), BAD);
        due(x.log(-1, 0, 0, 0), BAD);
        due(x.log(2, 0, 0, 0), NONE);
        set(1, 2, "1");
        due(x.log(1, 0, 0, 0), NOT);
        due(x.log(1, 0, 0, -1), BAD);
    }

    private void pencil() {
        set(0, 0, "1/x");
        due(x.pencil(0, 0, 0), 101);
        due(x.pencil(0, 1, 1), 0);
        x.tower(1, 0, 1, 0, 0);
        set(0, 1, "1/x+x");
        set(1, 1, "7/x");
        due(x.pencil(0, 1, 0), 1);
        due(x.pencil(0, 1, 1), 72);
        due(x.pencil(1, 0, 0), 1);
        due(x.pencil(1, 0, 1), 94);
        due(x.pencil(0, 0, 1), 100);
        due(x.pencil(2, 0, 0), 1);
        due(x.pencil(2, 0, 1), 0);
        due(x.pencil(0, 2, 0), 0);
        due(x.pencil(0, 2, 1), NONE);
        due(x.pencil(2, 2, 0), 101);
        // Two terms that ask for different numbers.
        set(0, -1, "1/x");
        set(1, -1, "1/x");
        due(x.pencil(0, 1, 0), 0);
        set(1, -1, "7/x");
        due(x.pencil(0, 1, 1), 72);
        set(1, -1, "7/(x+1)");
        due(x.pencil(0, 1, 0), 0);
        // Denominators that would be too great for a term.
        set(0, -1, "0");
        set(0, 1, "1/(x+1)^4");
        set(1, -1, "0");
        set(1, 1, "1/(x+2)^4");
        due(x.pencil(0, 1, 0), 0);

        x.tower(2, 0, 1, 0, 0);
        set(0, 1, "1/(x+1)+5/x");
        set(1, 1, "2/(x+1)+9/x");
        due(x.pencil(0, 1, 0), 1);
        due(x.pencil(0, 1, 1), 50);
        set(1, 1, "3/x");
        due(x.pencil(1, 1, 0), 101);
        due(x.pencil(0, 1, 0), 0);
        set(2, -1, "1");
        due(x.pencil(2, 1, 0), NOT);
        due(x.pencil(1, 2, 0), NOT);
        due(x.pencil(1, 2, 2), BAD);
        due(x.pencil(1, 2, -1), BAD);
        due(x.pencil(3, 0, 0), BAD);
        due(x.pencil(-1, 0, 0), BAD);
        due(x.pencil(0, 3, 0), BAD);
        due(x.pencil(0, -1, 0), BAD);
    }

    private void image() {
        set(0, 0, "x");
        x.tower(2, 3, 1, 0, 0);
        x.seed(99);
        due(x.image(), 1);
        due(x.count(5), 2);
        set(0, 0, "5");
        due(x.image(), 1);
        set(0, 0, "6");
        due(x.restore(), 1);
        dueText(0, 0, "5");
        due(x.count(5), 3);
        due(x.undo(), 2);
        dueText(0, 0, "x");
    }

    private void restore() {
        due(x.restore(), NONE);
        set(0, 0, "x");
        x.tower(2, 3, 1, 0, 0);
        x.seed(99);
        x.image();
        x.sheet(0, 1, 3);
        x.item(0, 1, 2, 8);
        x.drift(9);
        x.tower(1, 1, 1, 1, 1);
        typeAll("x+");
        for (int again = 0; again < 2; again++) {
            due(x.restore(), 1);
            dueText(0, 0, "x");
            due(x.count(0), 2);
            due(x.count(1), 3);
            due(x.count(5), 2);
            due(x.seed(4), 99);
            due(x.undo(), 1);
            due(x.count(0), 0);
            due(x.undo(), 0);
            dueText(0, 0, "0");
            x.drift(8);
        }
        due(x.type('1'), 3);
        due(x.read(0, 0), 3);
        due(x.drop(0), 3);
    }

    // ---- sheets

    private void seen() {
        set(0, 0, "x^2");
        set(1, -2, "x");
        set(2, 2, "1/x");
        for (int lane = 0; lane <= 3; lane++) {
            x.sheet(1, lane, 6);
            fill(1, lane, 0, 1, 1, 2, 4, 0, 0);
            due(x.seen(1, lane, 0, 1), 1 << 2 | 1 << 5 | 1 << 14);
            due(x.seen(1, lane, 0, 2), 1 << 2);
            due(x.seen(1, lane, 2, 1), 1 << 2);
            due(x.seen(1, lane, 4, 1), 0x7fff & ~(1 << 14));
            due(x.seen(1, lane, 0, 3), 1 << 2);
            due(x.seen(1, lane, 3, 1), 0x7fff & ~(1 << 2 | 1 << 5 | 1 << 14));
            due(x.seen(1, lane, 1, 1), 0);
            due(x.seen(1, lane, 5, 1), INDEX);
            due(x.seen(1, lane, 0, 4), INDEX);
            due(x.seen(1, lane, -1, 1), INDEX);
            due(x.seen(1, lane, MAX, 1), INDEX);
            due(x.seen(1, lane, MIN, 8), INDEX);
            due(x.seen(1, (lane + 1) % 4, 9, 1), CAST);
            fill(1, lane, 0, 101);
            due(x.seen(1, lane, 0, 1), NOT);
            due(x.seen(1, lane, 1, 1), 0);
            fill(1, lane, 0, 1, -1);
            due(x.seen(1, lane, 0, 1), NOT);
            due(x.seen(1, lane, 0, 4), INDEX);
        }
        due(x.seen(0, 0, 0, 1), NULL);
        due(x.seen(4, 0, 0, 1), BAD);
        due(x.seen(-1, 0, 0, 1), BAD);
        due(x.seen(0, 4, 0, 1), BAD);
        due(x.seen(0, -1, 0, 1), BAD);
        due(x.seen(0, 0, 0, 0), BAD);
        due(x.seen(0, 0, 0, 9), BAD);
        x.sheet(0, 0, 24);
        due(x.seen(0, 0, 8, 8), 0x7fff & ~(1 << 14));
        x.sheet(0, 3, 2);
        x.item(0, 3, 0, 1L << 32);
        due(x.seen(0, 3, 0, 1), NOT);
    }

    private void lay() {
        for (int lane = 0; lane <= 3; lane++) {
            renew();
            x.sheet(2, lane, 13);
            fill(2, lane, 1, 0, 2, 0, 0, 0, 0, 2, 0, 4, 0, 0, 0);
            due(x.lay(2, -1, 2, lane, 1), 1);
            dueText(2, -1, "51*x^5+51");
            due(x.count(5), 1);
            fill(2, lane, 1, 0, 0, 0, 0, 0, 0, 0, 0, 4, 0, 0, 3);
            due(x.lay(2, -1, 2, lane, 1), 1);
            dueText(2, -1, "0");
            due(x.coef(2, -1, 1, 0), 1);
            due(x.lay(2, -1, 2, lane, 2), INDEX);
            due(x.lay(2, -1, 2, lane, -1), INDEX);
            due(x.lay(2, -1, 2, lane, MAX), INDEX);
            due(x.lay(2, -1, 2, lane, MIN), INDEX);
            due(x.lay(2, -1, 2, (lane + 1) % 4, 99), CAST);
            due(x.lay(2, -1, 1, lane, 99), NULL);
            x.item(2, lane, 12, 101);
            due(x.lay(2, -1, 2, lane, 1), NOT);
            x.item(2, lane, 12, -1);
            due(x.lay(2, -1, 2, lane, 1), NOT);
            x.item(2, lane, 12, 0);
            x.item(2, lane, 9, 0);
            due(x.lay(2, -1, 2, lane, 1), NOT);
            x.item(2, lane, 12, 100);
            x.item(2, lane, 7, 100);
            due(x.lay(2, -1, 2, lane, 1), 1);
            dueText(2, -1, "x^2");
            due(x.count(5), 3);
        }
        due(x.lay(3, 0, 2, 0, 0), BAD);
        due(x.lay(-1, 0, 2, 0, 0), BAD);
        due(x.lay(0, 3, 2, 0, 0), BAD);
        due(x.lay(0, -3, 2, 0, 0), BAD);
        due(x.lay(0, 0, 4, 0, 0), BAD);
        due(x.lay(0, 0, -1, 0, 0), BAD);
        due(x.lay(0, 0, 1, 4, 0), BAD);
        due(x.lay(0, 0, 1, -1, 0), BAD);
    }

    private void film() {
        int[] want = {1, 2, 0, 0, 0, 0, 3, 7, 0, 0, 0, 1};
        for (int lane = 0; lane <= 3; lane++) {
            renew();
            set(0, 2, "(3*x^6+2*x+1)/(x^4+7)");
            x.sheet(3, lane, 14);
            for (int k = 0; k < 14; k++) {
                x.item(3, lane, k, 55);
            }
            due(x.film(0, 2, 3, lane, 1), 12);
            due(x.lay(1, 0, 3, lane, 1), 1);
            due(text(1, 0).equals(text(0, 2)) ? 1 : 0, 1);
            // The first and the last element stay, and each written one can be found.
            for (int k = 0; k < 14; k++) {
                x.sheet(0, lane, 2);
                x.copy(3, k, 0, 1, 1);
                set(2, 0, "" + (k == 0 || k == 13 ? 55 : want[k - 1]));
                due("element " + k, x.seen(0, lane, 0, 1) >> 12 & 1, 1);
            }
            due(x.film(0, 2, 3, lane, 3), INDEX);
            due(x.film(0, 2, 3, lane, -1), INDEX);
            due(x.film(0, 2, 3, lane, MAX), INDEX);
            due(x.film(0, 2, 3, (lane + 1) % 4, 0), CAST);
            due(x.film(0, 2, 2, lane, 0), NULL);
        }
        int changes = x.count(5);
        x.undo();
        due(x.film(0, 2, 3, 3, 0), 12);
        due(x.count(5), changes - 1);
        due(x.film(3, 0, 3, 3, 0), BAD);
        due(x.film(-1, 0, 3, 3, 0), BAD);
        due(x.film(0, 3, 3, 3, 0), BAD);
        due(x.film(0, -3, 3, 3, 0), BAD);
        due(x.film(0, 0, 4, 3, 0), BAD);
        due(x.film(0, 0, -1, 3, 0), BAD);
        due(x.film(0, 0, 3, 4, 0), BAD);
        due(x.film(0, 0, 3, -1, 0), BAD);
    }

    private void sheet() {
        due(x.sheet(0, 0, 0), 0);
        due(x.drop(0), 0);
        due(x.sheet(0, 3, 24), 24);
        x.item(0, 3, 23, 5);
        due(x.sheet(0, 3, 25), BAD);
        due(x.sheet(0, 3, -1), SIZE);
        due(x.sheet(0, 3, MIN), SIZE);
        due(x.sheet(4, 0, -1), BAD);
        due(x.sheet(-1, 0, 1), BAD);
        due(x.sheet(0, 4, -1), BAD);
        due(x.sheet(0, -1, 1), BAD);
        due(x.item(0, 3, 23, 5), 1);
        due(x.sheet(0, 3, 24), 24);
        due(x.seen(0, 3, 22, 1), 0x7fff);
        due(x.sheet(0, 1, 2), 2);
        due(x.item(0, 3, 0, 1), CAST);
        due(x.item(0, 1, 1, 1), 1);
        due(x.item(0, 1, 2, 1), INDEX);
        due(x.count(5), 0);
    }

    private void drop() {
        due(x.drop(2), NULL);
        x.sheet(2, 1, 17);
        due(x.drop(2), 17);
        due(x.drop(2), NULL);
        due(x.item(2, 1, 0, 0), NULL);
        due(x.drop(4), BAD);
        due(x.drop(-1), BAD);
        x.sheet(2, 1, 0);
        due(x.drop(2), 0);
    }

    private void item() {
        // 2^8, 2^16 and 2^32 more are the same after narrowing, and are not numbers where they are not narrowed.
        long[] more = {1L << 8, 1L << 16, 1L << 32};
        for (int lane = 0; lane <= 3; lane++) {
            renew();
            set(0, 0, "7");
            x.sheet(0, lane, 2);
            for (int k = 0; k < more.length; k++) {
                due(x.item(0, lane, 1, more[k] + 7), 1);
                boolean narrowed = lane <= k;
                due("7 + " + more[k] + " in lane " + lane, x.seen(0, lane, 0, 1), narrowed ? 1 << 2 : NOT);
            }
            due(x.item(0, lane, 1, (1L << 7) + 7), 1);
            due(x.seen(0, lane, 0, 1), NOT);
            due(x.item(0, lane, 1, Long.MIN_VALUE), 1);
            due(x.seen(0, lane, 0, 1), lane < 3 ? 0x7ffb : NOT);
            due(x.item(0, lane, 1, 7), 1);
            due(x.seen(0, lane, 0, 1), 1 << 2);
            due(x.item(0, lane, 2, 7), INDEX);
            due(x.item(0, lane, -1, 7), INDEX);
            due(x.item(0, lane, MAX, 7), INDEX);
            due(x.item(0, lane, MIN, 7), INDEX);
            due(x.item(0, (lane + 1) % 4, 9, 7), CAST);
        }
        due(x.item(1, 0, 0, 7), NULL);
        due(x.item(4, 0, 0, 7), BAD);
        due(x.item(-1, 0, 0, 7), BAD);
        due(x.item(0, 4, 0, 7), BAD);
        due(x.item(0, -1, 0, 7), BAD);
    }

    /** Tells whether the elements as of an even index are these, by constants that are found or not. */
    private void dueElements(int sheet, int lane, long... want) {
        x.sheet(3, lane, 2);
        for (int k = 0; k < want.length; k++) {
            set(0, 0, "" + want[k]);
            x.copy(sheet, k, 3, 1, 1);
            due("element " + k, x.seen(3, lane, 0, 1) >> 2 & 1, 1);
        }
    }

    private void copy() {
        x.sheet(0, 2, 6);
        fill(0, 2, 0, 1, 2, 3, 4, 5, 6);
        x.sheet(1, 2, 4);
        due(x.copy(0, 1, 1, 0, 4), 4);
        dueElements(1, 2, 2, 3, 4, 5);
        dueElements(0, 2, 1, 2, 3, 4, 5, 6);
        due(x.copy(0, 0, 0, 1, 5), 5);
        dueElements(0, 2, 1, 1, 2, 3, 4, 5);
        due(x.copy(0, 2, 0, 0, 4), 4);
        dueElements(0, 2, 2, 3, 4, 5, 4, 5);
        due(x.copy(0, 6, 1, 4, 0), 0);
        due(x.copy(0, 7, 1, 0, 0), INDEX);
        due(x.copy(0, 0, 1, 5, 0), INDEX);
        due(x.copy(0, 0, 1, 0, 5), INDEX);
        due(x.copy(0, 3, 1, 0, 4), INDEX);
        due(x.copy(0, -1, 1, 0, 1), INDEX);
        due(x.copy(0, 0, 1, -1, 1), INDEX);
        due(x.copy(0, 0, 1, 0, -1), INDEX);
        due(x.copy(0, MAX, 1, 0, MAX), INDEX);
        due(x.copy(0, 1, 1, 1, MAX), INDEX);
        due(x.copy(0, 0, 1, MAX, 1), INDEX);
        x.sheet(1, 3, 4);
        due(x.copy(0, -1, 1, 0, 1), CAST);
        due(x.copy(0, 0, 2, 0, 1), NULL);
        due(x.copy(2, 0, 0, 0, 1), NULL);
        due(x.copy(4, 0, 0, 0, 1), BAD);
        due(x.copy(-1, 0, 0, 0, 1), BAD);
        due(x.copy(0, 0, 4, 0, 1), BAD);
        due(x.copy(0, 0, -1, 0, 1), BAD);
    }
}
