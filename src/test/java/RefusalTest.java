import java.util.ArrayList;
import java.util.List;

/** What the document says of errors in general: nothing changes, and the error that is named first counts. */
public final class RefusalTest {
    private static final int BAD = Bench.BAD, NOT = Bench.NOT, FULL = Bench.FULL, NONE = Bench.NONE, NULL = Bench.NULL;
    private static final int CAST = Bench.CAST, INDEX = Bench.INDEX, SIZE = Bench.SIZE, MIN = Bench.MIN, MAX = Bench.MAX;

    private static final List<Bench.Call> CALLS = new ArrayList<>();
    private static final List<Integer> ERRORS = new ArrayList<>();

    public static void main(String[] args) {
        Bench.sentence("A call that returns an error changes nothing: questions about functions", b -> {
            refuseFunctionQuestions();
            dueRefusals();
        });
        Bench.sentence("A call that returns an error changes nothing: changes", b -> {
            refuseChanges();
            dueRefusals();
        });
        Bench.sentence("A call that returns an error changes nothing: questions about integrals", b -> {
            refuseIntegralQuestions();
            dueRefusals();
        });
        Bench.sentence("A call that returns an error changes nothing: sheets", b -> {
            refuseSheets();
            dueRefusals();
        });
        Bench.sentence("A call that returns an error changes nothing: a full tape", b -> Bench.dueRefusal(c -> {
            busy(c);
            c.type(" ".repeat(86));
        }, x -> x.type('7'), FULL));
        Bench.sentence("Questions change nothing", RefusalTest::questionsChangeNothing);
        Bench.sentence("What a call answers depends on the state, not on the call before", RefusalTest::callsBeforeDoNotMatter);
        Bench.sentence("If several errors apply, the one that the method names first is returned", RefusalTest::orderOfErrors);
        Bench.sentence("NONE is returned only if no error applies", RefusalTest::noneComesLast);
        Bench.finish();
    }

    /**
     * A state with something everywhere: 0 fits only an exponential, 1 fits a logarithm too, 2 fits always; a tower,
     * six changes that can be undone, an image of another state, a tape, and sheets of three kinds.
     */
    private static void busy(Bench b) {
        b.x.seed(17);
        b.x.drift(3);
        b.x.image();
        for (int f = 0; f <= 2; f++) {
            b.x.join(f, 1, f, f);
        }
        b.set(0, -1, "x^6/(x^4+2)");
        b.set(0, 2, "1/x");
        b.set(1, 2, "1/(x+1)^4");
        b.set(2, 0, "3/x+x^2");
        b.x.tower(2, 1, 2, 3, 4);
        b.x.seed(23);
        b.type("x+1 ");
        b.x.sheet(0, 0, 24);
        b.fill(0, 0, 0, 1, 2, 3, 4, 5, 6, 7, 8, 9, 10, 11, 12, 101, -1, 0, 0, 0, 0, 0, 0, 0, 0, 0, 0);
        b.x.sheet(1, 1, 12);
        b.x.sheet(3, 3, 0);
    }

    private static void refuse(int error, Bench.Call call) {
        CALLS.add(call);
        ERRORS.add(error);
    }

    private static void dueRefusals() {
        List<Integer> before = Bench.state(RefusalTest::busy);
        for (int k = 0; k < CALLS.size(); k++) {
            Bench.Call call = CALLS.get(k);
            Bench b = new Bench();
            busy(b);
            Bench.due("answer " + k, call.on(b.x), ERRORS.get(k));
            List<Integer> after = Bench.state(c -> {
                busy(c);
                call.on(c.x);
            });
            Bench.due("the same state after call " + k, after.equals(before), true);
        }
        CALLS.clear();
        ERRORS.clear();
    }

    private static void refuseFunctionQuestions() {
        for (int v : new int[] {-1, 3, MIN, MAX}) {
            refuse(BAD, x -> x.coef(v, 0, 0, 0));
            refuse(BAD, x -> x.letter(v, 0, 0));
            refuse(BAD, x -> x.value(v, 0, 0));
            refuse(BAD, x -> x.told(v, 0));
        }
        for (int v : new int[] {-3, 3, MIN, MAX}) {
            refuse(BAD, x -> x.coef(0, v, 0, 0));
            refuse(BAD, x -> x.letter(0, v, 0));
            refuse(BAD, x -> x.value(0, v, 0));
        }
        for (int v : new int[] {-1, MIN}) {
            refuse(BAD, x -> x.coef(0, 0, 0, v));
            refuse(BAD, x -> x.coef(0, 0, v, 0));
            refuse(BAD, x -> x.letter(0, 0, v));
            refuse(BAD, x -> x.value(0, 0, v));
            refuse(BAD, x -> x.told(0, v));
            refuse(BAD, x -> x.count(v));
        }
        refuse(BAD, x -> x.coef(0, 0, 2, 0));
        refuse(BAD, x -> x.value(0, 0, 101));
        refuse(BAD, x -> x.told(0, 4));
        refuse(BAD, x -> x.count(6));
        refuse(NONE, x -> x.letter(0, 0, 1));
        refuse(NONE, x -> x.value(0, 2, 0));
    }

    private static void refuseChanges() {
        for (int v : new int[] {31, 127, -1, MIN, MAX}) {
            refuse(BAD, x -> x.type(v));
        }
        for (int v : new int[] {-1, 3, MIN, MAX}) {
            refuse(BAD, x -> x.read(v, 0));
            refuse(BAD, x -> x.join(v, 0, 0, 0));
            refuse(BAD, x -> x.join(0, 0, v, 0));
            refuse(BAD, x -> x.join(0, 0, 0, v));
            refuse(BAD, x -> x.derive(v, 1));
            refuse(BAD, x -> x.derive(1, v));
            refuse(BAD, x -> x.tower(v, 0, 1, 0, 0));
        }
        for (int v : new int[] {-3, 3}) {
            refuse(BAD, x -> x.read(0, v));
        }
        for (int v : new int[] {-1, 4}) {
            refuse(BAD, x -> x.join(0, v, 1, 2));
        }
        for (int v : new int[] {-1, 101, MIN, MAX}) {
            refuse(BAD, x -> x.tower(1, v, 1, 0, 0));
            refuse(BAD, x -> x.tower(1, 0, v, 0, 0));
            refuse(BAD, x -> x.tower(1, 0, 1, v, 0));
            refuse(BAD, x -> x.tower(1, 0, 1, 0, v));
        }
        refuse(BAD, x -> x.tower(0, 1, 2, 3, 4));
        refuse(NOT, x -> x.tower(2, 1, 2, 3, 4));
        refuse(NOT, x -> x.tower(2, 1, 0, 0, 0));
        refuse(NOT, x -> x.tower(1, 0, 0, 0, 0));
        refuse(NOT, x -> x.join(1, 3, 1, 0));
        // Sums, products and quotients that go wrong late: the terms before would fit.
        refuse(FULL, x -> x.join(0, 2, 0, 0));
        refuse(FULL, x -> x.join(1, 2, 0, 1));
        refuse(FULL, x -> x.join(2, 2, 1, 2));
        refuse(FULL, x -> x.join(2, 0, 0, 1));
        refuse(FULL, x -> x.join(2, 1, 0, 1));
        refuse(FULL, x -> x.join(0, 3, 0, 1));
        refuse(NOT, x -> x.derive(1, 0));
        refuse(FULL, x -> x.derive(2, 1));
        refuse(FULL, x -> x.derive(1, 1));
        for (int v : new int[] {0, 41, -1, MIN, MAX}) {
            refuse(BAD, x -> x.drift(v));
        }
        refuse(BAD, x -> x.seed(-1));
        refuse(BAD, x -> x.seed(MIN));
    }

    private static void refuseIntegralQuestions() {
        for (int v : new int[] {-1, 3, MIN, MAX}) {
            refuse(BAD, x -> x.part(v, 0, 1, 0));
            refuse(BAD, x -> x.split(v, 0, 0, 0));
            refuse(BAD, x -> x.asked(v, 0));
            refuse(BAD, x -> x.integral(v, 0, 0, 0));
            refuse(BAD, x -> x.left(v, 0, 0, 0));
            refuse(BAD, x -> x.residue(v, 0));
            refuse(BAD, x -> x.log(v, 0, 0, 0));
            refuse(BAD, x -> x.pencil(v, 2, 0));
            refuse(BAD, x -> x.pencil(2, v, 0));
        }
        for (int v : new int[] {-3, 4, MIN, MAX}) {
            refuse(BAD, x -> x.part(0, v, 1, 0));
            refuse(BAD, x -> x.split(0, v, 0, 0));
            refuse(BAD, x -> x.integral(0, v, 0, 0));
            refuse(BAD, x -> x.left(0, v, 0, 0));
        }
        for (int v : new int[] {-1, MIN}) {
            refuse(BAD, x -> x.part(2, 0, 1, v));
            refuse(BAD, x -> x.split(2, 0, 0, v));
            refuse(BAD, x -> x.integral(2, 0, 0, v));
            refuse(BAD, x -> x.left(2, 0, 0, v));
            refuse(BAD, x -> x.residue(2, v));
            refuse(BAD, x -> x.log(2, 0, 0, v));
            refuse(BAD, x -> x.log(2, v, 0, 0));
        }
        refuse(BAD, x -> x.part(2, 0, 0, 0));
        refuse(BAD, x -> x.part(2, 0, 5, 0));
        refuse(BAD, x -> x.split(2, 0, 4, 0));
        refuse(BAD, x -> x.asked(2, 5));
        refuse(BAD, x -> x.left(2, 3, 0, 0));
        refuse(BAD, x -> x.left(2, 0, 2, 0));
        refuse(BAD, x -> x.integral(2, 0, 2, 0));
        refuse(BAD, x -> x.log(2, 0, 2, 0));
        refuse(BAD, x -> x.pencil(2, 2, 2));
        refuse(NOT, x -> x.asked(0, 0));
        refuse(NOT, x -> x.integral(0, 0, 0, 0));
        refuse(NOT, x -> x.left(0, 0, 0, 0));
        refuse(NOT, x -> x.residue(0, 0));
        refuse(NOT, x -> x.log(0, 0, 0, 0));
        refuse(NOT, x -> x.pencil(0, 2, 0));
        refuse(NOT, x -> x.pencil(2, 0, 1));
        refuse(NONE, x -> x.asked(2, 1));
        refuse(NONE, x -> x.integral(1, 0, 0, 0));
        refuse(NONE, x -> x.log(2, 1, 0, 0));
        refuse(NONE, x -> x.pencil(1, 2, 1));
    }

    private static void refuseSheets() {
        for (int v : new int[] {-1, 4, MIN, MAX}) {
            refuse(BAD, x -> x.seen(v, 0, 0, 1));
            refuse(BAD, x -> x.seen(0, v, 0, 1));
            refuse(BAD, x -> x.lay(0, 0, v, 0, 0));
            refuse(BAD, x -> x.lay(0, 0, 0, v, 0));
            refuse(BAD, x -> x.lay(v, 0, 0, 0, 0));
            refuse(BAD, x -> x.lay(0, v == -1 ? -3 : v, 0, 0, 0));
            refuse(BAD, x -> x.film(0, 0, v, 0, 0));
            refuse(BAD, x -> x.film(0, 0, 0, v, 0));
            refuse(BAD, x -> x.film(v, 0, 0, 0, 0));
            refuse(BAD, x -> x.film(0, v == -1 ? -3 : v, 0, 0, 0));
            refuse(BAD, x -> x.sheet(v, 0, 0));
            refuse(BAD, x -> x.sheet(0, v, 0));
            refuse(BAD, x -> x.drop(v));
            refuse(BAD, x -> x.item(v, 0, 0, 5));
            refuse(BAD, x -> x.item(0, v, 0, 5));
            refuse(BAD, x -> x.copy(v, 0, 0, 0, 1));
            refuse(BAD, x -> x.copy(0, 0, v, 0, 1));
        }
        refuse(BAD, x -> x.seen(0, 0, 0, 0));
        refuse(BAD, x -> x.seen(0, 0, 0, 9));
        refuse(BAD, x -> x.sheet(0, 0, 25));
        refuse(SIZE, x -> x.sheet(0, 0, -1));
        refuse(SIZE, x -> x.sheet(0, 0, MIN));
        refuse(NULL, x -> x.seen(2, 0, 0, 1));
        refuse(NULL, x -> x.lay(0, 0, 2, 0, 0));
        refuse(NULL, x -> x.film(0, 0, 2, 0, 0));
        refuse(NULL, x -> x.drop(2));
        refuse(NULL, x -> x.item(2, 0, 0, 5));
        refuse(NULL, x -> x.copy(2, 0, 0, 0, 0));
        refuse(NULL, x -> x.copy(0, 0, 2, 0, 0));
        refuse(CAST, x -> x.seen(0, 1, 0, 1));
        refuse(CAST, x -> x.lay(0, 0, 0, 1, 0));
        refuse(CAST, x -> x.film(0, 0, 0, 1, 0));
        refuse(CAST, x -> x.item(0, 1, 0, 5));
        refuse(CAST, x -> x.copy(0, 0, 1, 0, 1));
        for (int v : new int[] {-1, 13, 24, MIN, MAX}) {
            refuse(INDEX, x -> x.seen(0, 0, v, 8));
            refuse(INDEX, x -> x.lay(0, 0, 0, 0, v));
            refuse(INDEX, x -> x.film(0, 0, 0, 0, v));
            refuse(INDEX, x -> x.copy(0, v, 0, 0, 12));
            refuse(INDEX, x -> x.copy(0, 0, 0, v, 12));
        }
        refuse(INDEX, x -> x.item(0, 0, 24, 5));
        refuse(INDEX, x -> x.item(0, 0, -1, 5));
        refuse(INDEX, x -> x.item(3, 3, 0, 5));
        refuse(INDEX, x -> x.copy(0, 0, 0, 1, -1));
        refuse(INDEX, x -> x.copy(0, 0, 0, 1, MAX));
        refuse(NOT, x -> x.seen(0, 0, 11, 1));
        refuse(NOT, x -> x.seen(0, 0, 13, 1));
        refuse(NOT, x -> x.lay(0, 0, 0, 0, 1));
        refuse(NOT, x -> x.lay(0, 0, 0, 0, 12));
        refuse(NOT, x -> x.lay(0, 0, 1, 1, 0));
    }

    private static void questionsChangeNothing(Bench b) {
        Bench.Call[] questions = {
            x -> x.coef(0, -1, 0, 6), x -> x.letter(0, -1, 3), x -> x.value(0, -1, 5), x -> x.told(1, 0), x -> x.told(1, 1), x -> x.told(1, 2),
            x -> x.told(1, 3), x -> x.count(5), x -> x.part(1, 2, 4, 0), x -> x.split(1, 2, 0, 0), x -> x.asked(1, 0), x -> x.asked(2, 2),
            x -> x.asked(2, 3), x -> x.asked(2, 4), x -> x.integral(2, 0, 0, 1), x -> x.left(1, 2, 0, 0), x -> x.residue(1, 0), x -> x.log(2, 0, 1, 0),
            x -> x.pencil(1, 2, 0), x -> x.pencil(2, 2, 1), x -> x.seen(0, 0, 0, 4), x -> x.copy(0, 0, 0, 0, 24), x -> x.copy(3, 0, 3, 0, 0),
        };
        List<Integer> before = Bench.state(RefusalTest::busy);
        for (int k = 0; k < questions.length; k++) {
            Bench.Call question = questions[k];
            Bench asked = new Bench();
            busy(asked);
            Bench.due("no error for question " + k, question.on(asked.x) >= 0, true);
            List<Integer> after = Bench.state(c -> {
                busy(c);
                question.on(c.x);
            });
            Bench.due("the same state after question " + k, after.equals(before), true);
        }
    }

    /** Changes the object, and tells what came of it as one number. */
    private static int after(FiniteTerms x, int answer) {
        int told = answer;
        for (int f = 0; f <= 2; f++) {
            for (int i = -2; i <= 2; i++) {
                for (int k = 0; k <= 6; k++) {
                    told = told * 31 + x.coef(f, i, 0, k) + 131 * x.coef(f, i, 1, k);
                }
            }
        }
        return told;
    }

    private static int typeAndRead(FiniteTerms x, String text) {
        x.read(0, 0);
        for (int k = 0; k < text.length(); k++) {
            x.type(text.charAt(k));
        }
        return after(x, x.read(0, 0));
    }

    private static int askOfOtherTower(FiniteTerms x, int kind, int f) {
        x.tower(kind, 0, 1, 0, 0);
        return x.asked(f, 0) * 1000 + x.pencil(f, 2, 0);
    }

    /** Each question behind each other one: nothing stays of what was worked out before. */
    private static void callsBeforeDoNotMatter(Bench b) {
        Bench.Call[] before = {
            x -> x.letter(0, -1, 0), x -> x.letter(2, -2, 0), x -> x.part(0, -1, 1, 0), x -> x.part(1, 2, 4, 0), x -> x.split(0, -1, 0, 0),
            x -> x.split(1, 2, 2, 0), x -> x.asked(1, 0), x -> x.asked(2, 3), x -> x.integral(2, 0, 0, 0), x -> x.left(1, 1, 0, 0),
            x -> x.residue(1, 0), x -> x.log(2, 0, 1, 0), x -> x.pencil(1, 2, 0), x -> x.pencil(2, 1, 0), x -> x.join(2, 2, 0, 0),
            x -> x.join(2, 2, 1, 1), x -> x.join(2, 0, 0, 1), x -> x.join(2, 3, 0, 1), x -> x.derive(2, 1), x -> x.seen(0, 0, 0, 2),
            x -> x.lay(0, 0, 1, 1, 0), x -> x.film(0, 0, 2, 0, 0), x -> x.told(1, 1), x -> x.value(0, -1, 3),
        };
        Bench.Call[] then = {
            x -> x.letter(1, 2, 1), x -> x.letter(2, 1, 0), x -> x.part(1, 2, 4, 0), x -> x.part(2, 0, 1, 0), x -> x.part(2, 1, 1, 0),
            x -> x.split(1, 2, 0, 0), x -> x.split(2, 0, 0, 3), x -> x.split(2, 0, 2, 0), x -> x.split(2, -1, 1, 0), x -> x.asked(1, 0), x -> x.asked(1, 1),
            x -> x.asked(1, 4), x -> x.asked(2, 0), x -> x.asked(2, 2), x -> x.integral(2, 0, 0, 3), x -> x.integral(2, 3, 0, 0),
            x -> x.left(1, 1, 1, 0), x -> x.left(2, 0, 0, 0), x -> x.left(2, 1, 1, 0), x -> x.residue(1, 0), x -> x.residue(2, 0), x -> x.residue(2, 2),
            x -> x.log(2, 0, 1, 1), x -> x.log(2, 0, 1, 2), x -> x.pencil(1, 2, 0), x -> x.pencil(2, 1, 1), x -> x.pencil(1, 1, 1),
            x -> x.seen(0, 0, 0, 1), x -> after(x, x.lay(0, 0, 0, 0, 0)), x -> after(x, x.drift(1)), x -> after(x, x.drift(5)),
            x -> after(x, x.join(0, 2, 2, 2)), x -> after(x, x.join(0, 3, 1, 2)), x -> after(x, x.derive(0, 2)),
            x -> typeAndRead(x, "x/(x+1)"), x -> typeAndRead(x, "2"), x -> askOfOtherTower(x, 1, 0), x -> askOfOtherTower(x, 1, 1), x -> askOfOtherTower(x, 2, 1),
        };
        for (int k = 0; k < then.length; k++) {
            Bench alone = new Bench();
            busy(alone);
            int want = then[k].on(alone.x);
            for (int j = 0; j < before.length; j++) {
                Bench behind = new Bench();
                busy(behind);
                before[j].on(behind.x);
                Bench.due("answer " + k + " behind call " + j, then[k].on(behind.x), want);
            }
        }
        // A tower leaves nothing for the next one: 1/x is a multiple of u' / u here, and no obstacle only for logarithms.
        b.set(0, 1, "1/x");
        for (int kind : new int[] {2, 1, 2, 1}) {
            b.x.tower(kind, 0, 1, 0, 0);
            Bench.due(b.x.asked(0, 0), kind - 1);
            Bench.due(b.x.pencil(0, 2, 0), kind == 2 ? 101 : 0);
        }
    }

    private static void orderOfErrors(Bench b) {
        busy(b);
        // BAD, then NOT, then FULL.
        Bench.due(b.x.tower(3, 0, 0, 0, 0), BAD);
        Bench.due(b.x.tower(2, 101, 0, 0, 0), BAD);
        Bench.due(b.x.join(3, 3, 0, 0), BAD);
        Bench.due(b.x.join(0, 3, 0, 0), NOT);
        Bench.due(b.x.join(2, 4, 0, 1), BAD);
        Bench.due(b.x.derive(3, 0), BAD);
        Bench.due(b.x.derive(0, 0), NOT);
        // BAD for each argument, wherever it stands, before NOT.
        Bench.due(b.x.integral(0, 4, 0, 0), BAD);
        Bench.due(b.x.integral(0, 0, 2, 0), BAD);
        Bench.due(b.x.integral(0, 0, 0, -1), BAD);
        Bench.due(b.x.left(0, 0, 2, 0), BAD);
        Bench.due(b.x.left(0, 0, 0, -1), BAD);
        Bench.due(b.x.residue(0, -1), BAD);
        Bench.due(b.x.log(0, -1, 0, 0), BAD);
        Bench.due(b.x.log(0, 0, 2, 0), BAD);
        Bench.due(b.x.log(0, 0, 0, -1), BAD);
        Bench.due(b.x.asked(0, 5), BAD);
        Bench.due(b.x.pencil(0, 2, 2), BAD);
        Bench.due(b.x.pencil(0, 3, 0), BAD);
        // BAD, then NULL, CAST, INDEX, NOT.
        Bench.due(b.x.seen(2, 0, -1, 9), BAD);
        Bench.due(b.x.seen(2, 0, -1, 1), NULL);
        Bench.due(b.x.seen(0, 1, -1, 1), CAST);
        Bench.due(b.x.seen(0, 0, 23, 1), INDEX);
        Bench.due(b.x.seen(0, 0, 12, 8), INDEX);
        Bench.due(b.x.lay(3, 0, 2, 0, -1), BAD);
        Bench.due(b.x.lay(0, 0, 2, 0, -1), NULL);
        Bench.due(b.x.lay(0, 0, 0, 1, -1), CAST);
        Bench.due(b.x.lay(0, 0, 0, 0, 13), INDEX);
        Bench.due(b.x.film(0, 3, 2, 0, -1), BAD);
        Bench.due(b.x.film(0, 0, 2, 0, -1), NULL);
        Bench.due(b.x.film(0, 0, 0, 1, -1), CAST);
        Bench.due(b.x.sheet(4, 0, -1), BAD);
        Bench.due(b.x.item(2, 4, -1, 0), BAD);
        Bench.due(b.x.item(2, 0, -1, 0), NULL);
        Bench.due(b.x.item(0, 1, -1, 0), CAST);
        Bench.due(b.x.copy(2, -1, 4, 0, 0), BAD);
        Bench.due(b.x.copy(2, -1, 0, 0, 0), NULL);
        Bench.due(b.x.copy(0, -1, 1, 0, 0), CAST);
    }

    private static void noneComesLast(Bench b) {
        busy(b);
        Bench.due(b.x.letter(3, 0, 99), BAD);
        Bench.due(b.x.letter(0, 0, 99), NONE);
        Bench.due(b.x.value(3, 2, 0), BAD);
        Bench.due(b.x.value(0, 2, 0), NONE);
        Bench.due(b.x.asked(0, 1), NOT);
        Bench.due(b.x.asked(2, 1), NONE);
        Bench.due(b.x.integral(0, 0, 0, 0), NOT);
        Bench.due(b.x.integral(1, 0, 2, 0), BAD);
        Bench.due(b.x.integral(1, 0, 0, 0), NONE);
        Bench.due(b.x.log(0, 99, 0, 0), NOT);
        Bench.due(b.x.log(2, 99, 0, -1), BAD);
        Bench.due(b.x.log(2, 99, 0, 0), NONE);
        Bench.due(b.x.pencil(1, 0, 1), NOT);
        Bench.due(b.x.pencil(1, 2, 1), NONE);
    }
}
