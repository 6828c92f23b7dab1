/** The boundary cases of numbers, fractions and functions, and of the promises 1 to 6. */
public final class TermBoundariesTest {
    private static final int BAD = Bench.BAD, FULL = Bench.FULL, NONE = Bench.NONE, MIN = Bench.MIN, MAX = Bench.MAX;

    public static void main(String[] args) {
        describe();
        newObject();
        coef();
        letter();
        value();
        told();
        count();
        Bench.finish();
    }

    // ---- numbers, fractions, functions

    private static void describe() {
        Bench.sentence("Numbers are 0 to 100, with arithmetic modulo 101.", b -> {
            b.dueRead("100", "100");
            b.dueRead("100+1", "0");
            b.dueRead("99+1", "100");
            b.dueRead("0-1", "100");
            b.dueRead("0-100", "1");
            b.dueRead("100*100", "1");
            b.dueRead("50*2", "100");
            b.dueRead("51*2", "1");
            for (int v = 1; v <= 100; v++) {
                b.renew();
                b.set(0, 0, "1/" + v);
                Bench.due(b.x.coef(0, 0, 0, 0) * v % 101, 1);
            }
        });
        Bench.sentence("They have no common divisor of degree 1 or more", b -> {
            // The whole denominator, all but a number of it, the whole numerator, and none.
            b.lay(0, 0, Bench.row(0, 0, 0, 0, 0, 0, 3), Bench.row(0, 0, 0, 0, 1));
            b.dueTerm(0, 0, Bench.row(0, 0, 3), Bench.row(1));
            b.lay(0, 0, Bench.row(0, 0, 0, 0, 3), Bench.row(0, 0, 0, 0, 1));
            b.dueTerm(0, 0, Bench.row(3), Bench.row(1));
            b.lay(0, 0, Bench.row(0, 0, 0, 3), Bench.row(0, 0, 0, 0, 1));
            b.dueTerm(0, 0, Bench.row(3), Bench.row(0, 1));
            b.lay(0, 0, Bench.row(100, 0, 1), Bench.row(1, 2, 1));
            b.dueTerm(0, 0, Bench.row(100, 1), Bench.row(1, 1));
            b.lay(0, 0, Bench.row(2, 0, 1), Bench.row(0, 2, 0, 1));
            b.dueTerm(0, 0, Bench.row(1), Bench.row(0, 1));
            b.lay(0, 0, Bench.row(0, 0, 0, 0, 0, 0, 1), Bench.row(1, 0, 0, 0, 1));
            b.dueTerm(0, 0, Bench.row(0, 0, 0, 0, 0, 0, 1), Bench.row(1, 0, 0, 0, 1));
            b.dueRead("(x^2-1)/(x+1)^2", "(x+100)/(x+1)");
            b.dueRead("1/(x+1)*(x+1)", "1");
            b.dueRead("1/x-1/x", "0");
            b.dueRead("x/(x+1)+1/(x+1)", "1");
        });
        Bench.sentence("the head of the denominator is 1", b -> {
            b.lay(0, 0, Bench.row(1), Bench.row(0, 100));
            b.dueTerm(0, 0, Bench.row(100), Bench.row(0, 1));
            b.lay(0, 0, Bench.row(4, 0, 0, 0, 0, 0, 2), Bench.row(3, 0, 0, 0, 2));
            b.dueTerm(0, 0, Bench.row(2, 0, 0, 0, 0, 0, 1), Bench.row(52, 0, 0, 0, 1));
            b.lay(0, 0, Bench.row(6, 4), Bench.row(2));
            b.dueTerm(0, 0, Bench.row(3, 2), Bench.row(1));
            b.dueRead("1/(100*x)", "(100)/(x)");
            b.dueRead("5/7", "44");
        });
        Bench.sentence("the fraction 0 is 0 / 1", b -> {
            b.lay(0, 0, Bench.row(0), Bench.row(3, 0, 0, 0, 2));
            b.dueTerm(0, 0, Bench.row(), Bench.row(1));
            b.lay(0, 0, Bench.row(0), Bench.row(7));
            b.dueTerm(0, 0, Bench.row(), Bench.row(1));
            b.set(1, 1, "1/x^4");
            Bench.due(b.x.join(1, 1, 1, 1), 0);
            b.dueTerm(1, 1, Bench.row(), Bench.row(1));
            b.dueRead("0/x^4", "0");
            b.dueTerm(0, 0, Bench.row(), Bench.row(1));
            b.dueRead("0*(1/x)", "0");
            b.dueTerm(0, 0, Bench.row(), Bench.row(1));
            Bench.due(b.x.derive(2, 0), 0);
            b.dueTerm(2, 0, Bench.row(), Bench.row(1));
        });
        Bench.sentence("There are the functions 0 to 2. A function f has five terms, the fractions f(-2) to f(2), all 0 at first", b -> {
            for (int f = 0; f <= 2; f++) {
                for (int i = -2; i <= 2; i++) {
                    b.dueTerm(f, i, Bench.row(), Bench.row(1));
                }
            }
            b.renew();
            for (int k = 0; k < 15; k++) {
                b.set(k / 5, k % 5 - 2, (k + 1) + "/(x+" + k + ")");
            }
            for (int k = 0; k < 15; k++) {
                b.dueTerm(k / 5, k % 5 - 2, Bench.row(k + 1), Bench.row(k, 1));
            }
        });
        Bench.sentence("The numerator of a term has at most degree 6", b -> {
            b.dueRead("x^6", "x^6");
            b.dueError("x^7", FULL);
            b.dueRead("x^3*x^3", "x^6");
            b.dueError("x^3*x^4", FULL);
            b.dueRead("x^5+1/x", "(x^6+1)/(x)");
            b.dueError("x^6+1/x", FULL);
            b.dueError("x^6-1/x", FULL);
            b.dueError("x^6/(1/x)", FULL);
            b.renew();
            b.set(0, 0, "x^5");
            b.set(0, 1, "x^6");
            b.set(1, 0, "x");
            b.set(2, 0, "1/x");
            Bench.due(b.x.join(2, 0, 0, 2), 12);
            b.set(2, 0, "0");
            b.set(2, 1, "1/x");
            Bench.due(b.x.join(2, 0, 0, 2), FULL);
            Bench.due(b.x.join(2, 1, 0, 2), FULL);
            Bench.due(b.x.join(2, 2, 0, 1), FULL);
            Bench.due(b.x.join(2, 3, 0, 2), FULL);
            b.set(0, 1, "0");
            Bench.due(b.x.join(2, 2, 0, 1), 4);
            b.dueText(2, 0, "x^6");
            b.x.tower(1, 0, 0, 1, 0);
            b.set(0, 1, "x^5");
            Bench.due(b.x.derive(1, 0), 12);
            b.dueText(1, 1, "2*x^6+5*x^4");
            b.set(0, 1, "x^6");
            Bench.due(b.x.derive(1, 0), FULL);
        });
        Bench.sentence("its denominator at most degree 4; what would be greater is an error FULL", b -> {
            b.dueRead("1/x^4", "(1)/(x^4)");
            b.dueError("1/x^5", FULL);
            b.dueError("1/x^4/x", FULL);
            b.dueError("1/x^4*(1/x)", FULL);
            b.dueRead("1/x^3+1/(x+1)", "(x^3+x+1)/(x^4+x^3)");
            b.dueError("1/x^4+1/(x+1)", FULL);
            b.dueError("1/x^4-1/(x+1)", FULL);
            b.dueRead("(x^6+1)/(x^4+1)", "(x^6+1)/(x^4+1)");
            b.renew();
            b.set(0, 0, "1/x^3");
            b.set(1, 0, "1/(x+1)");
            b.set(2, 0, "x+1");
            Bench.due(b.x.join(1, 2, 0, 1), 4);
            b.dueText(1, 0, "(1)/(x^4+x^3)");
            Bench.due(b.x.join(1, 3, 1, 2), FULL);
            Bench.due(b.x.join(1, 2, 1, 0), FULL);
            Bench.due(b.x.derive(1, 0), 4);
            b.dueText(1, 0, "(98)/(x^4)");
            Bench.due(b.x.derive(1, 1), FULL);
            b.dueText(1, 0, "(98)/(x^4)");
        });
    }

    // ---- promises 1 to 6

    private static void newObject() {
        Bench.sentence("Creates an object with three functions that are 0", b -> {
            for (int f = 0; f <= 2; f++) {
                Bench.due(b.x.told(f, 0), 0);
                Bench.due(b.x.told(f, 2), 0);
            }
        });
        Bench.sentence("a plain tower", b -> {
            for (int what = 0; what <= 4; what++) {
                Bench.due(b.x.count(what), 0);
            }
            Bench.due(b.x.tower(0, 0, 0, 0, 0), Bench.NOT);
        });
        Bench.sentence("the random number 1", b -> Bench.due(b.x.seed(1), 1));
        Bench.sentence("an empty tape", b -> {
            Bench.due(b.x.type('x'), 1);
            b.renew();
            Bench.due(b.x.read(0, 0), -20);
        });
        Bench.sentence("missing sheets", b -> {
            for (int sheet = 0; sheet <= 3; sheet++) {
                Bench.due(b.x.item(sheet, 0, 0, 0), Bench.NULL);
                Bench.due(b.x.drop(sheet), Bench.NULL);
            }
        });
        Bench.sentence("no saved state", b -> {
            Bench.due(b.x.count(5), 0);
            Bench.due(b.x.undo(), NONE);
            Bench.due(b.x.restore(), NONE);
        });
    }

    private static void coef() {
        Bench.sentence("coef: f: the function, 0 to 2", b -> Bench.dueRange(f -> b.x.coef(f, 0, 0, 0), 0, 2));
        Bench.sentence("coef: i: the term, -2 to 2", b -> Bench.dueRange(i -> b.x.coef(0, i, 0, 0), -2, 2));
        Bench.sentence("coef: what: 0 for the numerator, 1 for the denominator", b -> {
            Bench.dueRange(what -> b.x.coef(0, 0, what, 0), 0, 1);
            Bench.due(b.x.coef(0, 0, 0, 0), 0);
            Bench.due(b.x.coef(0, 0, 1, 0), 1);
        });
        Bench.sentence("coef: k: the power of x, 0 or more", b -> {
            Bench.dueRange(k -> b.x.coef(0, 0, 0, k), 0, MAX);
            Bench.dueRange(k -> b.x.coef(0, 0, 1, k), 0, MAX);
        });
        Bench.sentence("Coefficients beyond the degree are 0.", b -> {
            b.lay(2, -2, Bench.row(1, 2, 3, 4, 5, 6, 7), Bench.row(8, 9, 10, 11, 1));
            b.dueTerm(2, -2, Bench.row(1, 2, 3, 4, 5, 6, 7), Bench.row(8, 9, 10, 11, 1));
            // Behind these coefficients lie those of the next term.
            b.lay(2, -1, Bench.row(99), Bench.row(98, 1));
            Bench.due(b.x.coef(2, -2, 0, 7), 0);
            Bench.due(b.x.coef(2, -2, 1, 5), 0);
            for (int k : new int[] {48, 100, 1 << 16, 1 << 30, MAX - 1, MAX}) {
                Bench.due(b.x.coef(2, -2, 0, k), 0);
                Bench.due(b.x.coef(2, -2, 1, k), 0);
                Bench.due(b.x.part(2, -2, 1, k), 0);
                Bench.due(b.x.split(2, -2, 0, k), 0);
                Bench.due(b.x.integral(0, 0, 1, k), 0);
                Bench.due(b.x.left(0, 0, 1, k), 0);
                Bench.due(b.x.residue(0, k), 0);
            }
            b.set(0, 0, "1/x");
            Bench.due(b.x.log(0, 0, 1, 1), 1);
            Bench.due(b.x.log(0, 0, 1, 2), 0);
            Bench.due(b.x.log(0, 0, 1, MAX), 0);
        });
    }

    private static void letter() {
        Bench.sentence("letter: f: the function, 0 to 2", b -> Bench.dueRange(f -> b.x.letter(f, 0, 0), 0, 2));
        Bench.sentence("letter: i: the term, -2 to 2", b -> Bench.dueRange(i -> b.x.letter(0, i, 0), -2, 2));
        Bench.sentence("letter: k: the index of the character, 0 or more", b -> Bench.dueRange(k -> b.x.letter(0, 0, k), 0, MAX));
        Bench.sentence("NONE if there is no such character", b -> {
            Bench.due(b.x.letter(0, 0, 0), '0');
            Bench.due(b.x.letter(0, 0, 1), NONE);
            b.set(0, 0, "1/x");
            Bench.due(b.x.letter(0, 0, 6), ')');
            Bench.due(b.x.letter(0, 0, 7), NONE);
            Bench.due(b.x.letter(0, 0, MAX), NONE);
            // The longest text has 83 characters.
            b.lay(1, 1, Bench.row(100, 100, 100, 100, 100, 100, 100), Bench.row(100, 100, 100, 100, 1));
            Bench.due(b.x.letter(1, 1, 82), ')');
            Bench.due(b.x.letter(1, 1, 83), NONE);
            // A shorter text leaves nothing of it.
            Bench.due(b.x.letter(0, 1, 1), NONE);
            Bench.due(b.x.letter(0, 0, 7), NONE);
        });
    }

    private static void value() {
        Bench.sentence("value: f: the function, 0 to 2", b -> Bench.dueRange(f -> b.x.value(f, 0, 0), 0, 2));
        Bench.sentence("value: i: the term, -2 to 2", b -> Bench.dueRange(i -> b.x.value(0, i, 0), -2, 2));
        Bench.sentence("value: x: the number, 0 to 100", b -> {
            Bench.dueRange(v -> b.x.value(0, 0, v), 0, 100);
            b.set(0, 0, "x");
            for (int v = 0; v <= 100; v++) {
                Bench.due(b.x.value(0, 0, v), v);
            }
            b.lay(0, 1, Bench.row(1, 0, 0, 0, 0, 0, 1), Bench.row(2, 0, 0, 0, 1));
            // At 100, which is -1, this is 2 / 3.
            Bench.due(b.x.value(0, 1, 100), 68);
            Bench.due(b.x.value(0, 1, 0), 51);
        });
        Bench.sentence("NONE if the denominator is 0 there", b -> {
            b.set(0, 0, "x/((x+1)*(x-50)*(x-51))");
            for (int v : new int[] {100, 50, 51}) {
                Bench.due(b.x.value(0, 0, v), NONE);
            }
            Bench.due(b.x.value(0, 0, 0), 0);
            b.set(0, 1, "1/x");
            Bench.due(b.x.value(0, 1, 0), NONE);
            Bench.due(b.x.value(0, 1, 100), 100);
            // What the denominator and the numerator had in common has gone.
            b.set(0, 2, "(x^2-1)/(x-1)");
            Bench.due(b.x.value(0, 2, 1), 2);
        });
    }

    private static void told() {
        Bench.sentence("told: f: the function, 0 to 2", b -> Bench.dueRange(f -> b.x.told(f, 0), 0, 2));
        Bench.sentence("told: what: 0 for the set .. 3 for whether it fits the tower", b -> Bench.dueRange(what -> b.x.told(0, what), 0, 3));
        Bench.sentence("0 for the set of its terms that are not 0 (bit i + 2 for term i)", b -> {
            int set = 0;
            for (int i = -2; i <= 2; i++) {
                b.set(1, i, "x^6");
                set |= 1 << i + 2;
                Bench.due(b.x.told(1, 0), set);
            }
            for (int i = -2; i <= 2; i++) {
                b.set(1, i, "0");
                set &= ~(1 << i + 2);
                Bench.due(b.x.told(1, 0), set);
            }
            for (int i = -2; i <= 2; i++) {
                b.renew();
                b.set(1, i, "1/x^4");
                Bench.due(b.x.told(1, 0), 1 << i + 2);
                Bench.due(b.x.told(0, 0), 0);
                Bench.due(b.x.told(2, 0), 0);
            }
        });
        Bench.sentence("1 for how many different denominators its five terms have", b -> {
            Bench.due(b.x.told(0, 1), 1);
            String[] texts = {"1/x", "2/(x+1)", "3/x^2", "4/x^4", "x"};
            int[] want = {2, 3, 4, 5, 5};
            for (int k = 0; k < 5; k++) {
                b.set(0, k - 2, texts[k]);
                Bench.due(b.x.told(0, 1), want[k]);
            }
            b.set(0, 2, "5/x^4");
            Bench.due(b.x.told(0, 1), 4);
            for (int i = -2; i <= 2; i++) {
                b.set(0, i, (i + 3) + "/(x^4+7)");
            }
            Bench.due(b.x.told(0, 1), 1);
            // Numerators do not count, whatever their powers.
            String[] powers = {"x^6", "x^5", "x", "1", "0"};
            for (int i = -2; i <= 2; i++) {
                b.set(1, i, powers[i + 2]);
            }
            Bench.due(b.x.told(1, 1), 1);
            // Nor do other functions: the last term of 1 and the first one of 2 have the same denominator.
            Bench.due(b.x.told(2, 1), 1);
            b.set(1, 2, "1/x");
            b.set(2, -2, "2/x");
            Bench.due(b.x.told(1, 1), 2);
            Bench.due(b.x.told(2, 1), 2);
            // Denominators that differ in one coefficient alone, the first or the last.
            b.set(0, 2, "1/(x^4+8)");
            Bench.due(b.x.told(0, 1), 2);
            b.set(0, -2, "1/(x^4+x^3+7)");
            Bench.due(b.x.told(0, 1), 3);
            b.set(0, -2, "1/(x^3+7)");
            Bench.due(b.x.told(0, 1), 3);
        });
        Bench.sentence("2 for the least function that has the same terms (perhaps itself)", b -> {
            Bench.due(b.x.told(2, 2), 0);
            b.set(0, 2, "x");
            Bench.due(b.x.told(0, 2), 0);
            Bench.due(b.x.told(1, 2), 1);
            Bench.due(b.x.told(2, 2), 1);
            b.set(2, 2, "x");
            Bench.due(b.x.told(2, 2), 0);
            Bench.due(b.x.told(1, 2), 1);
            b.set(1, 2, "x");
            Bench.due(b.x.told(1, 2), 0);
            Bench.due(b.x.told(2, 2), 0);
            // One coefficient of one term is enough: the first, and the last one.
            b.set(2, -2, "1");
            Bench.due(b.x.told(2, 2), 2);
            b.set(2, -2, "0");
            b.set(2, 2, "x+1");
            Bench.due(b.x.told(2, 2), 2);
            b.lay(0, 2, Bench.row(1), Bench.row(2, 0, 0, 0, 1));
            b.lay(1, 2, Bench.row(1), Bench.row(2, 0, 0, 1, 1));
            b.lay(2, 2, Bench.row(1), Bench.row(2, 0, 0, 1, 1));
            Bench.due(b.x.told(1, 2), 1);
            Bench.due(b.x.told(2, 2), 1);
        });
        Bench.sentence("3 for whether it fits the tower (1 or 0)", b -> {
            for (int i = -2; i <= 2; i++) {
                for (int kind = 0; kind <= 2; kind++) {
                    b.renew();
                    b.x.tower(kind, 0, kind == 0 ? 0 : 1, 0, 0);
                    Bench.due(b.x.told(1, 3), 1);
                    b.set(1, i, "1/x");
                    Bench.due(b.x.told(1, 3), kind == 1 || i == 0 || kind == 2 && i > 0 ? 1 : 0);
                    Bench.due(b.x.told(0, 3), 1);
                }
            }
            b.renew();
            for (int i = -2; i <= 2; i++) {
                b.set(1, i, "1");
            }
            Bench.due(b.x.told(1, 3), 0);
            b.x.tower(1, 0, 1, 0, 0);
            Bench.due(b.x.told(1, 3), 1);
        });
    }

    private static void count() {
        Bench.sentence("BAD if what is not 0 to 5", b -> Bench.dueRange(what -> b.x.count(what), 0, 5));
        Bench.sentence("0 for the kind of the tower", b -> {
            for (int kind : new int[] {1, 2, 0}) {
                b.x.tower(kind, 0, kind == 0 ? 0 : 1, 0, 0);
                Bench.due(b.x.count(0), kind);
            }
        });
        Bench.sentence("1 to 4 for the coefficients of x^0 to x^3 in u (0 if the tower is plain)", b -> {
            for (int kind = 1; kind <= 2; kind++) {
                Bench.due(b.x.tower(kind, 97, 98, 99, 100), 3);
                for (int k = 1; k <= 4; k++) {
                    Bench.due(b.x.count(k), 96 + k);
                }
                Bench.due(b.x.tower(0, 0, 0, 0, 0), 0);
                for (int k = 1; k <= 4; k++) {
                    Bench.due(b.x.count(k), 0);
                }
            }
        });
        Bench.sentence("5 for how many changes can be undone", b -> {
            for (int k = 1; k <= 9; k++) {
                b.set(0, 0, "x");
                Bench.due(b.x.count(5), Math.min(k, 6));
            }
            for (int k = 5; k >= 0; k--) {
                b.x.undo();
                Bench.due(b.x.count(5), k);
            }
            b.x.undo();
            Bench.due(b.x.count(5), 0);
        });
        Bench.sentence("An object is used for at most 512 calls: what one object does another one does not see", b -> {
            FiniteTerms other = new FiniteTerms();
            b.x.drift(40);
            b.x.tower(2, 1, 1, 1, 1);
            b.x.sheet(0, 0, 4);
            b.x.image();
            b.type("x+");
            Bench.due(other.seed(5), 1);
            Bench.due(other.count(0), 0);
            Bench.due(other.count(5), 0);
            Bench.due(other.restore(), NONE);
            Bench.due(other.drop(0), Bench.NULL);
            Bench.due(other.type('7'), 1);
            Bench.due(other.read(2, 2), 1);
            Bench.due(b.x.type('7'), 3);
            Bench.due(b.x.coef(MIN, 0, 0, 0), BAD);
        });
    }
}
