/** The boundary cases of splitting, of integrals, residues and logarithms, and of the promises 15 to 22. */
public final class IntegralBoundariesTest {
    private static final int BAD = Bench.BAD, NOT = Bench.NOT, NONE = Bench.NONE, MAX = Bench.MAX;
    private static final int MOST = 24;
    /** Denominators of each shape that a term can have: how often each factor divides. */
    private static final String[] DENOMINATORS = {
        "1", "x", "(x+1)^2", "(x+1)^3", "(x+1)^4", "x*(x+1)", "x^2*(x+1)", "x^3*(x+1)", "x^2*(x+100)^2", "x*(x+1)*(x+2)", "x^2*(x+1)*(x+2)",
        "x*(x+1)*(x+2)*(x+3)", "(x^2+2)", "(x^2+2)^2", "(x^2+2)*(x+5)^2", "(x^2+2)*(x+5)", "(x^3+2)*x", "(x^4+2)",
    };
    private static final String[] NUMERATORS = {"1", "x", "x+50", "x^2+3", "x^3+x", "x^4+100", "x^5+2*x+9", "x^6", "x^6+x^5+x^4+x^3+x^2+x+1"};

    public static void main(String[] args) {
        part();
        split();
        asked();
        obstacles();
        integral();
        integralOfLogarithms();
        left();
        residue();
        log();
        pencil();
        Bench.finish();
    }

    private static Model.Fr frac(Bench.Row above, Bench.Row below) {
        int[] n = new int[MOST];
        int[] d = new int[MOST];
        for (int k = 0; k < MOST; k++) {
            n[k] = above.at(k);
            d[k] = below.at(k);
        }
        return new Model.Fr(Model.poly(n), Model.poly(d));
    }

    private static Model.Fr term(Bench b, int f, int i) {
        return frac(k -> b.x.coef(f, i, 0, k), k -> b.x.coef(f, i, 1, k));
    }

    private static Model.Fr rest(Bench b, int f, int i) {
        return frac(k -> b.x.left(f, i, 0, k), k -> b.x.left(f, i, 1, k));
    }

    private static Model.Fr piece(Bench b, int f, int i) {
        return frac(k -> b.x.integral(f, i, 0, k), k -> b.x.integral(f, i, 1, k));
    }

    private static Model.Fr fraction(int[] above, int... below) {
        return Model.Fr.of(Model.poly(above), Model.poly(below));
    }

    private static void dueFrac(String what, Model.Fr got, Model.Fr want) {
        Bench.due(what, got.text(), want.text());
    }

    /** A fraction as the document wants it, with a denominator that nothing divides twice. */
    private static void dueSquareFree(Model.Fr r) {
        Bench.due("degree of what divides a denominator twice", Model.deg(Model.gcd(r.d(), Model.slope(r.d()))), 0);
        Bench.due("a fraction is reduced", Model.Fr.of(r.n(), r.d()).same(r), true);
    }

    private static int[] whole(Model.Fr f) {
        return Model.divide(f.n(), f.d())[0];
    }

    // ---- promise 15

    private static void duePart(Bench b, String text, int[]... want) {
        b.renew();
        b.set(1, 2, "1/(" + text + ")");
        for (int m = 1; m <= 4; m++) {
            int times = m;
            Bench.dueRow(text + ", " + m + " times", k -> b.x.part(1, 2, times, k), want[m - 1]);
        }
    }

    private static void part() {
        Bench.sentence("part: f: the function, 0 to 2", b -> Bench.dueRange(f -> b.x.part(f, 0, 1, 0), 0, 2));
        Bench.sentence("part: i: the term, -2 to 2", b -> Bench.dueRange(i -> b.x.part(0, i, 1, 0), -2, 2));
        Bench.sentence("part: m: how many times, 1 to 4", b -> Bench.dueRange(m -> b.x.part(0, 0, m, 0), 1, 4));
        Bench.sentence("part: k: the power of x, 0 or more", b -> Bench.dueRange(k -> b.x.part(0, 0, 1, k), 0, MAX));
        Bench.sentence("all irreducible factors that divide it exactly m times, once each", b -> {
            int[] one = {1};
            duePart(b, "x", Bench.row(0, 1), one, one, one);
            duePart(b, "x^2", one, Bench.row(0, 1), one, one);
            duePart(b, "x^3", one, one, Bench.row(0, 1), one);
            duePart(b, "x^4", one, one, one, Bench.row(0, 1));
            duePart(b, "(x+100)^4", one, one, one, Bench.row(100, 1));
            duePart(b, "x*(x+1)^3", Bench.row(0, 1), one, Bench.row(1, 1), one);
            duePart(b, "x*(x+1)^2", Bench.row(0, 1), Bench.row(1, 1), one, one);
            duePart(b, "x*(x+2)*(x+1)^2", Bench.row(0, 2, 1), Bench.row(1, 1), one, one);
            duePart(b, "x^2*(x+1)^2", one, Bench.row(0, 1, 1), one, one);
            duePart(b, "x*(x+1)*(x+2)*(x+3)", Bench.row(0, 6, 11, 6, 1), one, one, one);
            duePart(b, "x^4+2", Bench.row(2, 0, 0, 0, 1), one, one, one);
            duePart(b, "(x^2+2)^2", one, Bench.row(2, 0, 1), one, one);
            duePart(b, "(x^2+2)*(x+5)^2", Bench.row(2, 0, 1), Bench.row(5, 1), one, one);
        });
        Bench.sentence("(1 if there are none)", b -> {
            for (int m = 1; m <= 4; m++) {
                int times = m;
                Bench.dueRow("of 0", k -> b.x.part(0, 0, times, k), 1);
            }
            b.set(0, 0, "x^6+1");
            for (int m = 1; m <= 4; m++) {
                int times = m;
                Bench.dueRow("of a polynomial", k -> b.x.part(0, 0, times, k), 1);
            }
        });
        Bench.sentence("part: the tower does not matter", b -> {
            b.set(0, -2, "1/x^3");
            for (int kind : new int[] {1, 2, 0}) {
                b.x.tower(kind, 0, kind == 0 ? 0 : 1, 0, 0);
                Bench.due(b.x.part(0, -2, 3, 1), 1);
                Bench.due(b.x.split(0, -2, 0, 0), 50);
            }
        });
    }

    // ---- promise 16

    private static void dueSplit(Bench b, String text) {
        b.renew();
        b.set(2, -1, text);
        Model.Fr q = frac(k -> b.x.split(2, -1, 0, k), k -> b.x.split(2, -1, 1, k));
        Model.Fr r = frac(k -> b.x.split(2, -1, 2, k), k -> b.x.split(2, -1, 3, k));
        dueFrac("q' + r of " + text, q.slope().plus(r, 1), term(b, 2, -1));
        dueSquareFree(r);
        Bench.due("q is reduced", Model.Fr.of(q.n(), q.d()).same(q), true);
        Bench.due("degree of the polynomial part of r of " + text, Model.deg(whole(r)), -1);
        Bench.due("constant coefficient of the polynomial part of q of " + text, Model.at(whole(q), 0), 0);
        Bench.due("degrees of q below 100", b.x.split(2, -1, 0, 100) + b.x.split(2, -1, 1, 100), 0);
    }

    private static void split() {
        Bench.sentence("split: f: the function, 0 to 2", b -> Bench.dueRange(f -> b.x.split(f, 0, 0, 0), 0, 2));
        Bench.sentence("split: i: the term, -2 to 2", b -> Bench.dueRange(i -> b.x.split(0, i, 0, 0), -2, 2));
        Bench.sentence("split: what: 0 for the numerator of q .. 3 for the denominator of r", b -> {
            Bench.dueRange(what -> b.x.split(0, 0, what, 0), 0, 3);
            b.set(0, 0, "2*x+3/(x+4)+5/(x+6)^2");
            // q is x^2 - 5 / (x + 6), and r is 3 / (x + 4).
            Bench.dueRow("numerator of q", k -> b.x.split(0, 0, 0, k), 96, 0, 6, 1);
            Bench.dueRow("denominator of q", k -> b.x.split(0, 0, 1, k), 6, 1);
            Bench.dueRow("numerator of r", k -> b.x.split(0, 0, 2, k), 3);
            Bench.dueRow("denominator of r", k -> b.x.split(0, 0, 3, k), 4, 1);
        });
        Bench.sentence("split: k: the power of x, 0 or more", b -> {
            for (int what = 0; what <= 3; what++) {
                int side = what;
                Bench.dueRange(k -> b.x.split(0, 0, side, k), 0, MAX);
            }
        });
        Bench.sentence("the denominator of r is square-free; there is exactly one such pair for each fraction", b -> {
            dueSplit(b, "0");
            for (String above : NUMERATORS) {
                for (String below : DENOMINATORS) {
                    dueSplit(b, "(" + above + ")/(" + below + ")");
                }
            }
        });
        Bench.sentence("if w is 0, the polynomial part of q has the constant coefficient 0", b -> {
            b.set(0, 0, "1");
            Bench.dueRow("q of 1", k -> b.x.split(0, 0, 0, k), 0, 1);
            b.set(0, 0, "7*x^6+6*x^5+5*x^4+4*x^3+3*x^2+2*x+1");
            Bench.dueRow("q of all powers", k -> b.x.split(0, 0, 0, k), 0, 1, 1, 1, 1, 1, 1, 1);
            Bench.dueRow("its denominator", k -> b.x.split(0, 0, 1, k), 1);
            b.set(0, 0, "1-1/x^2");
            Bench.dueRow("q with a pole", k -> b.x.split(0, 0, 0, k), 1, 0, 1);
            Bench.dueRow("its denominator", k -> b.x.split(0, 0, 1, k), 0, 1);
        });
        Bench.sentence("the polynomial part of r is 0 if w is 0", b -> {
            b.set(0, 0, "x^6/(x+1)");
            Bench.dueRow("r", k -> b.x.split(0, 0, 2, k), 1);
            Bench.dueRow("its denominator", k -> b.x.split(0, 0, 3, k), 1, 1);
            b.set(0, 0, "x^6");
            Bench.dueRow("r of a polynomial", k -> b.x.split(0, 0, 2, k));
            Bench.dueRow("its denominator", k -> b.x.split(0, 0, 3, k), 1);
        });
        Bench.sentence("Returns a coefficient of the result of splitting a term by 0, whatever the tower is", b -> {
            for (int kind = 0; kind <= 2; kind++) {
                for (int i = -2; i <= 2; i++) {
                    int term = i;
                    b.renew();
                    b.x.tower(kind, 0, kind == 0 ? 0 : 1, kind == 0 ? 0 : 5, 0);
                    b.set(0, i, "3*x^2+2/(x+1)^3+4/x");
                    // q is x^3 - 1 / (x + 1)^2, and r is 4 / x.
                    Bench.dueRow("numerator of q", k -> b.x.split(0, term, 0, k), 100, 0, 0, 1, 2, 1);
                    Bench.dueRow("denominator of q", k -> b.x.split(0, term, 1, k), 1, 2, 1);
                    Bench.dueRow("numerator of r", k -> b.x.split(0, term, 2, k), 4);
                    Bench.dueRow("denominator of r", k -> b.x.split(0, term, 3, k), 0, 1);
                }
            }
        });
    }

    // ---- promise 17

    private static void asked() {
        Bench.sentence("asked: f: the function, 0 to 2", b -> Bench.dueRange(f -> b.x.asked(f, 0), 0, 2));
        Bench.sentence("asked: what: 0 for whether it has an integral .. 4 for the degree of R", b -> Bench.dueRange(what -> b.x.asked(0, what), 0, 4));
        Bench.sentence("asked: NOT if the function does not fit the tower", b -> {
            b.set(0, 1, "1/x");
            for (int what = 0; what <= 4; what++) {
                Bench.due(b.x.asked(0, what), NOT);
                Bench.due(b.x.asked(3, what), BAD);
            }
            Bench.due(b.x.asked(0, 5), BAD);
            Bench.due(b.x.asked(0, -1), BAD);
        });
        Bench.sentence("with a plain tower it always has one", b -> {
            for (String below : DENOMINATORS) {
                b.set(0, 0, "(x^6+1)/(" + below + ")");
                Bench.due(b.x.asked(0, 0), 1);
                Bench.due(b.x.asked(0, 1), NONE);
            }
        });
        Bench.sentence("2 for the number of logarithms, 3 for the open degree, 4 for the degree of R", b -> {
            String[] texts = {
                "0", "x^6", "1/x^4", "1/x", "2/x+2/(x+1)", "2/x+3/(x+1)", "1/x+2/(x+1)+3/(x+2)+4/(x+3)", "1/x+1/(x+1)+1/(x+2)+1/(x+3)", "1/(x^2+2)",
                "2*x/(x^2+2)", "1/(x^2+2)+x/(x^2+3)", "1/(x^4+2)", "4*x^3/(x^4+2)", "1/(x^2+2)^2", "1/(x^2+2)+7/x+7/(x+1)", "1/(x^2+2)+2*x/(x^2+2)+1/x",
                "100/x", "100/x+100/(x+1)", "100/x+1/(x^2+2)", "99/x+1/(x^2+2)",
            };
            int[][] want = {
                {0, 0, 0}, {0, 0, 0}, {0, 0, 0}, {1, 0, 1}, {1, 0, 2}, {2, 0, 2}, {4, 0, 4}, {1, 0, 4}, {0, 2, 2},
                {1, 0, 2}, {1, 2, 4}, {0, 4, 4}, {1, 0, 4}, {0, 2, 2}, {1, 2, 4}, {1, 2, 3},
                {1, 0, 1}, {1, 0, 2}, {1, 2, 3}, {1, 2, 3},
            };
            for (int k = 0; k < texts.length; k++) {
                b.renew();
                b.set(0, 0, texts[k]);
                for (int what = 2; what <= 4; what++) {
                    Bench.due("property " + what + " of " + texts[k], b.x.asked(0, what), want[k][what - 2]);
                }
            }
        });
    }

    private static void obstacles() {
        Bench.sentence("If there is no integral, the obstacle is the greatest i for which the condition is not satisfied.", b -> {
            // Each set of terms that have no integral.
            int[] places = {-2, -1, 1, 2};
            for (int set = 0; set < 16; set++) {
                b.renew();
                b.x.tower(1, 0, 1, 0, 0);
                b.set(0, 0, "1/x");
                int greatest = 0;
                for (int k = 0; k < 4; k++) {
                    b.set(0, places[k], (set >> k & 1) == 1 ? "1/x" : "x^2");
                    greatest = (set >> k & 1) == 1 ? places[k] : greatest;
                }
                Bench.due(b.x.asked(0, 0), set == 0 ? 1 : 0);
                Bench.due(b.x.asked(0, 1), set == 0 ? NONE : 2 + greatest);
                Bench.due(b.x.integral(0, 0, 1, 0) == NONE ? 0 : 1, set == 0 ? 1 : 0);
            }
            for (int set = 0; set < 4; set++) {
                b.renew();
                b.x.tower(2, 0, 1, 0, 0);
                b.set(0, 0, "1/(x+1)");
                b.set(0, 1, (set & 1) == 1 ? "1/(x+1)" : "1/x");
                b.set(0, 2, (set & 2) == 2 ? "1/(x+1)" : "1/x");
                Bench.due(b.x.asked(0, 0), set == 0 ? 1 : 0);
                Bench.due(b.x.asked(0, 1), set == 0 ? NONE : set == 1 ? 3 : 4);
            }
        });
        Bench.sentence("NONE if there is an integral: it is returned only if no error applies", b -> {
            Bench.due(b.x.asked(0, 1), NONE);
            b.set(0, 1, "1");
            Bench.due(b.x.asked(0, 1), NOT);
            b.x.tower(1, 0, 1, 0, 0);
            Bench.due(b.x.asked(0, 1), NONE);
            Bench.due(b.x.asked(3, 1), BAD);
        });
        Bench.sentence("for each i other than 0, r(i) is 0 (exponential)", b -> {
            // A rest in term 0 is no obstacle, and one that is a polynomial or has a pole elsewhere is one.
            b.x.tower(1, 0, 0, 1, 0);
            b.set(0, 0, "1/(x^2+2)");
            Bench.due(b.x.asked(0, 0), 1);
            b.set(0, 1, "1");
            Bench.due(b.x.asked(0, 0), 0);
            b.set(0, 1, "2*x");
            Bench.due(b.x.asked(0, 0), 1);
            b.set(0, 1, "2*x+1/x");
            Bench.due(b.x.asked(0, 1), 3);
        });
        Bench.sentence("r(i) is c(i) * u' / u for some number c(i) (logarithm)", b -> {
            String[] fine = {"0", "2*x/(x^2+2)", "100*x/(x^2+2)", "x/(x^2+2)+x^3", "x/(x^2+2)+1/(x+5)^2"};
            String[] wrong = {"1/(x^2+2)", "(x+1)/(x^2+2)", "1/x", "x/(x^2+2)+1/x", "1/(x+1)"};
            for (int i = 1; i <= 2; i++) {
                b.renew();
                b.x.tower(2, 2, 0, 1, 0);
                for (String text : fine) {
                    b.set(0, i, text);
                    // 1/(x+5)^2 brings 1/(x+5) * u'/u into the terms below, which only term 0 may have.
                    boolean spoiled = i == 2 && text.endsWith("^2");
                    Bench.due("integral of " + text, b.x.asked(0, 0), spoiled ? 0 : 1);
                    Bench.due(b.x.asked(0, 1), spoiled ? 3 : NONE);
                }
                for (String text : wrong) {
                    b.set(0, i, text);
                    Bench.due("integral of " + text, b.x.asked(0, 0), 0);
                    Bench.due(b.x.asked(0, 1), i + 2);
                }
            }
            // u with a factor twice or three times: u' / u has it once.
            b.renew();
            b.x.tower(2, 0, 0, 0, 1);
            b.set(0, 1, "1/x");
            Bench.due(b.x.asked(0, 0), 1);
            Bench.due(b.x.integral(0, 2, 0, 0), 17);
            b.x.tower(2, 0, 0, 1, 1);
            Bench.due(b.x.asked(0, 0), 0);
            b.set(0, 1, "2/x+1/(x+1)");
            Bench.due(b.x.asked(0, 0), 1);
            Bench.due(b.x.integral(0, 2, 0, 0), 51);
        });
    }

    // ---- promise 18

    /** Function 1 becomes the derivative of function 0; its integral is function 0 again. */
    private static void dueIntegralOfDerivative(Bench b) {
        Bench.due("a derivative", b.x.derive(1, 0) >= 0, true);
        Bench.due(b.x.asked(1, 0), 1);
        for (int i = -2; i <= 2; i++) {
            dueFrac("part " + i, piece(b, 1, i), term(b, 0, i));
        }
        dueFrac("part 3", piece(b, 1, 3), Model.Fr.ZERO);
    }

    private static void integral() {
        Bench.sentence("integral: f: the function, 0 to 2", b -> Bench.dueRange(f -> b.x.integral(f, 0, 0, 0), 0, 2));
        Bench.sentence("integral: i: the index of the part q(i), -2 to 3", b -> Bench.dueRange(i -> b.x.integral(0, i, 0, 0), -2, 3));
        Bench.sentence("integral: what: 0 for the numerator, 1 for the denominator", b -> {
            Bench.dueRange(what -> b.x.integral(0, 0, what, 0), 0, 1);
            b.set(0, 0, "5-2/(x+3)^2");
            Bench.dueRow("numerator", k -> b.x.integral(0, 0, 0, k), 2, 15, 5);
            Bench.dueRow("denominator", k -> b.x.integral(0, 0, 1, k), 3, 1);
        });
        Bench.sentence("integral: k: the power of x, 0 or more", b -> Bench.dueRange(k -> b.x.integral(0, 0, 1, k), 0, MAX));
        Bench.sentence("integral: NOT if the function does not fit the tower", b -> {
            b.set(0, -1, "1/x");
            Bench.due(b.x.integral(0, 0, 0, 0), NOT);
            Bench.due(b.x.integral(0, 3, 1, MAX), NOT);
            Bench.due(b.x.integral(0, 4, 0, 0), BAD);
            Bench.due(b.x.integral(0, 0, 0, -1), BAD);
            b.x.tower(2, 0, 1, 0, 0);
            Bench.due(b.x.integral(0, 0, 0, 0), NOT);
        });
        Bench.sentence("integral: NONE if it has no integral", b -> {
            b.x.tower(1, 0, 1, 0, 0);
            b.set(0, 1, "1/x");
            b.set(0, 0, "x");
            for (int i = -2; i <= 3; i++) {
                Bench.due(b.x.integral(0, i, 0, 0), NONE);
                Bench.due(b.x.integral(0, i, 1, MAX), NONE);
            }
            Bench.due(b.x.integral(0, 3, 2, 0), BAD);
            b.x.tower(0, 0, 0, 0, 0);
            Bench.due(b.x.integral(0, 0, 0, 0), NOT);
        });
        Bench.sentence("The parts q(i) and rests r(i) of a function that fits are all 0, except: plain: q(0) and r(0)", b -> {
            b.set(0, 0, "x^6/(x+1)^4");
            for (int i = -2; i <= 3; i++) {
                if (i != 0) {
                    dueFrac("part " + i, piece(b, 0, i), Model.Fr.ZERO);
                }
            }
            for (int i = -2; i <= 2; i++) {
                if (i != 0) {
                    dueFrac("rest " + i, rest(b, 0, i), Model.Fr.ZERO);
                }
            }
            dueFrac("q(0)' + r(0)", piece(b, 0, 0).slope().plus(rest(b, 0, 0), 1), term(b, 0, 0));
            // Nothing stays from a function with more terms that was looked at before.
            b.x.tower(1, 0, 1, 0, 0);
            b.set(1, 2, "x");
            Bench.due(b.x.integral(1, 2, 0, 1), 51);
            b.x.tower(0, 0, 0, 0, 0);
            dueFrac("part 2", piece(b, 0, 2), Model.Fr.ZERO);
        });
        Bench.sentence("exponential: q(i) and r(i) from splitting f(i) by i * u', for i = -2 to 2 (by 0 for i = 0)", b -> {
            int[][] us = {{0, 1, 0, 0}, {7, 100, 0, 0}, {0, 0, 1, 0}, {1, 2, 100, 0}, {0, 0, 0, 1}, {1, 2, 3, 100}};
            String[] pieces = {"1", "x", "x^4+3", "1/x", "1/(x+1)^3", "x/(x^2+2)", "x^2/(x+100)"};
            for (int[] u : us) {
                for (String text : pieces) {
                    b.renew();
                    b.x.tower(1, u[0], u[1], u[2], u[3]);
                    for (int i = -2; i <= 2; i++) {
                        b.set(0, i, i == 0 && text.equals("1") ? "0" : text);
                    }
                    // Term 0 is split by 0, so its constant coefficient gets lost.
                    if (text.equals("x^4+3")) {
                        b.set(0, 0, "x^4");
                    }
                    if (text.equals("x^2/(x+100)")) {
                        b.set(0, 0, "x^2/(x+100)-1");
                    }
                    dueIntegralOfDerivative(b);
                }
            }
        });
    }

    private static void integralOfLogarithms() {
        Bench.sentence("logarithm: for i = 2, 1, 0, in this order, splitting f(i) - (i + 1) * q(i + 1) * u' / u by 0, where q(3) is 0", b -> {
            int[][] us = {{0, 1, 0, 0}, {7, 100, 0, 0}, {0, 0, 1, 0}, {1, 2, 100, 0}, {0, 0, 0, 1}, {2, 0, 0, 1}};
            String[] pieces = {"x", "x^4+3*x", "1/x", "x^3/7"};
            for (int[] u : us) {
                for (String text : pieces) {
                    for (int i = 0; i <= 2; i++) {
                        b.renew();
                        b.x.tower(2, u[0], u[1], u[2], u[3]);
                        b.set(0, i, text);
                        dueIntegralOfDerivative(b);
                        dueFrac("rest 0", rest(b, 1, 0), Model.Fr.ZERO);
                    }
                }
            }
        });
        Bench.sentence("c(i) / (i + 1) is added to q(i + 1) afterwards, for i = 1 and 2 (so q(3) may be a number other than 0)", b -> {
            // With u = x, c * t^2 / x has the integral c / 3 * t^3, and c * t / x has c / 2 * t^2.
            for (int c : new int[] {0, 1, 2, 3, 50, 99, 100}) {
                b.renew();
                b.x.tower(2, 0, 1, 0, 0);
                b.set(0, 2, c + "/x");
                b.set(0, 1, c + "/x+1");
                dueFrac("part 3", piece(b, 0, 3), fraction(Bench.row(c * 34), 1));
                dueFrac("part 2", piece(b, 0, 2), fraction(Bench.row(c * 51), 1));
                dueFrac("part 1", piece(b, 0, 1), fraction(Bench.row(0, 1), 1));
                dueFrac("part 0", piece(b, 0, 0), fraction(Bench.row(0, 100), 1));
                // A number that is added later changes no rest.
                dueFrac("rest 2", rest(b, 0, 2), fraction(Bench.row(c), 0, 1));
                dueFrac("rest 1", rest(b, 0, 1), fraction(Bench.row(c), 0, 1));
                dueFrac("rest 0", rest(b, 0, 0), Model.Fr.ZERO);
                // f(0) has no such number: it stays a residue.
                b.set(0, 0, "5/x");
                dueFrac("part 1", piece(b, 0, 1), fraction(Bench.row(0, 1), 1));
                Bench.due(b.x.log(0, 0, 0, 0), 5);
            }
            // Added to a part that is not 0: t^2 * (x + 4) has the derivative t^2 + t * 2 * (x + 4) / x.
            b.renew();
            b.x.tower(2, 0, 1, 0, 0);
            b.set(0, 2, "x+4");
            dueIntegralOfDerivative(b);
            b.set(0, 2, "1/x+4");
            dueIntegralOfDerivative(b);
        });
        Bench.sentence("parts and rests have no limits of terms: numerators of degree 12, denominators of degree 5", b -> {
            b.x.tower(2, 0, 1, 0, 0);
            b.set(0, 2, "x^6");
            b.set(0, 1, "1/(x+1)^4");
            b.set(0, 0, "1/(x+3)^4");
            Model.Fr seventh = fraction(Bench.row(0, 0, 0, 0, 0, 0, 0, 1), 7);
            Model.Fr cube = fraction(Bench.row(1), 3, 9, 9, 3);
            dueFrac("part 2", piece(b, 0, 2), seventh);
            // f(1) - 2 * q(2) / x is 1 / (x + 1)^4 - 2 / 7 * x^6.
            Model.Fr one = fraction(Bench.row(0, 0, 0, 0, 0, 0, 0, -2), 49).plus(cube, -1);
            dueFrac("part 1", piece(b, 0, 1), one);
            // f(0) - q(1) / x is 1 / (x + 3)^4 + 2 / 49 * x^6 + 1 / (3 * x * (x + 1)^3), and 1 / (x * (x + 1)^3) is
            // 1 / x - 1 / (x + 1) - 1 / (x + 1)^2 - 1 / (x + 1)^3.
            Model.Fr none = fraction(Bench.row(0, 0, 0, 0, 0, 0, 0, 2), 343).plus(fraction(Bench.row(1), 81, 81, 27, 3), -1)
                .plus(fraction(Bench.row(1), 3, 3), 1).plus(fraction(Bench.row(1), 6, 12, 6), 1);
            dueFrac("part 0", piece(b, 0, 0), none);
            Bench.due("degree of the numerator", Model.deg(none.n()), 12);
            Bench.due("degree of the denominator", Model.deg(none.d()), 5);
            dueFrac("rest 0", rest(b, 0, 0), fraction(Bench.row(1), 0, 3, 3));
        });
        Bench.sentence("q(3) is 0 without such a number, also after a function that has one", b -> {
            b.x.tower(2, 0, 1, 0, 0);
            b.set(0, 2, "3/x");
            b.set(1, 2, "1");
            Bench.due(b.x.integral(0, 3, 0, 0), 1);
            Bench.due(b.x.integral(1, 3, 0, 0), 0);
            Bench.due(b.x.integral(1, 3, 1, 0), 1);
            Bench.due(b.x.integral(0, 3, 0, 0), 1);
            b.x.tower(1, 0, 1, 0, 0);
            Bench.due(b.x.integral(1, 3, 0, 0), 0);
            Bench.due(b.x.integral(0, 3, 0, 0), NONE);
            b.x.tower(2, 0, 1, 0, 0);
            b.set(0, 1, "1/(x+1)");
            Bench.due(b.x.integral(0, 3, 0, 0), NONE);
        });
    }

    // ---- promise 19

    /** Sets term i of 0 to the derivative of a piece plus a rest that is short enough: that rest is left. */
    private static void dueLeft(Bench b, int i, String piece, String rest) {
        b.x.join(0, 1, 0, 0);
        b.x.join(1, 1, 1, 1);
        b.set(0, i, piece);
        b.set(1, i, rest);
        Model.Fr want = term(b, 1, i);
        Bench.due("a derivative of " + piece, b.x.derive(0, 0) >= 0, true);
        Bench.due("a sum of it and " + rest, b.x.join(0, 0, 0, 1) >= 0, true);
        dueFrac("rest " + i + " behind " + piece, rest(b, 0, i), want);
        Bench.due(b.x.asked(0, 0), i == 0 || want.isZero() ? 1 : 0);
    }

    private static void left() {
        Bench.sentence("left: f: the function, 0 to 2", b -> Bench.dueRange(f -> b.x.left(f, 0, 0, 0), 0, 2));
        Bench.sentence("left: i: the index of the rest r(i), -2 to 2", b -> Bench.dueRange(i -> b.x.left(0, i, 0, 0), -2, 2));
        Bench.sentence("left: what: 0 for the numerator, 1 for the denominator", b -> {
            Bench.dueRange(what -> b.x.left(0, 0, what, 0), 0, 1);
            b.set(0, 0, "5/(x+7)");
            Bench.dueRow("numerator", k -> b.x.left(0, 0, 0, k), 5);
            Bench.dueRow("denominator", k -> b.x.left(0, 0, 1, k), 7, 1);
        });
        Bench.sentence("left: k: the power of x, 0 or more", b -> Bench.dueRange(k -> b.x.left(0, 0, 1, k), 0, MAX));
        Bench.sentence("left: NOT if the function does not fit the tower", b -> {
            b.set(0, 2, "1");
            Bench.due(b.x.left(0, 0, 0, 0), NOT);
            Bench.due(b.x.left(0, 3, 0, 0), BAD);
            Bench.due(b.x.left(0, 0, 0, -1), BAD);
            b.x.tower(2, 0, 1, 0, 0);
            Bench.due(b.x.left(0, 2, 0, 0), 0);
            b.set(0, -2, "1");
            Bench.due(b.x.left(0, 2, 0, 0), NOT);
        });
        Bench.sentence("whether it has an integral or not", b -> {
            b.x.tower(1, 0, 1, 0, 0);
            b.set(0, 1, "1/x");
            Bench.due(b.x.integral(0, 1, 0, 0), NONE);
            Bench.due(b.x.left(0, 1, 0, 0), 1);
            b.set(0, 1, "x");
            Bench.due(b.x.integral(0, 1, 0, 0), 100);
            Bench.due(b.x.left(0, 1, 0, 0), 0);
            Bench.due(b.x.left(0, 1, 1, 0), 1);
        });
        Bench.sentence("the polynomial part of r has a lower degree than w, and is 0 if w is 0 or a number", b -> {
            for (int i = -2; i <= 2; i++) {
                if (i != 0) {
                    // w is a number: no polynomial is left.
                    b.renew();
                    b.x.tower(1, 9, 7, 0, 0);
                    dueLeft(b, i, "x^5", "0");
                    dueLeft(b, i, "x^3", "4/(x+1)");
                    dueLeft(b, i, "1/(x+1)", "4/(x+1)");
                    b.set(0, i, "x^6+x^2+8");
                    dueFrac("rest by a number", rest(b, 0, i), Model.Fr.ZERO);
                    // w has the degree 1: a number can be left.
                    b.renew();
                    b.x.tower(1, 1, 0, 5, 0);
                    dueLeft(b, i, "x^4", "3");
                    dueLeft(b, i, "x^2", "3+4/(x+1)");
                    dueLeft(b, i, "1/(x+1)^2", "100");
                    b.set(0, i, "x");
                    dueFrac("rest of x", rest(b, 0, i), Model.Fr.ZERO);
                    // w has the degree 2: x can be left, and x^2 + 1 leaves a number.
                    b.renew();
                    b.x.tower(1, 1, 0, 0, 4);
                    dueLeft(b, i, "x^4", "3*x+1");
                    dueLeft(b, i, "x^2", "x+2/x");
                    dueLeft(b, i, "1/x^3", "100*x");
                    b.set(0, i, "x^2+1");
                    dueFrac("rest of x^2 + 1", rest(b, 0, i), fraction(Bench.row(1), 1));
                }
            }
            b.renew();
            b.x.tower(1, 1, 0, 0, 4);
            dueLeft(b, 0, "x^3", "1/(x^4+2)");
            dueLeft(b, 0, "1/x^2", "1/x");
        });
        Bench.sentence("left: a logarithm has rests -2 and -1 that are 0, and an obstacle stays in its rest", b -> {
            b.x.tower(2, 0, 1, 0, 0);
            b.set(0, 2, "1/(x+1)+2/x");
            b.set(0, 1, "7/(x+3)+x");
            b.set(0, 0, "5/(x+2)^2+6/(x+2)");
            dueFrac("rest 2", rest(b, 0, 2), fraction(Bench.row(2, 3), 0, 1, 1));
            dueFrac("rest 1", rest(b, 0, 1), fraction(Bench.row(7), 3, 1));
            dueFrac("rest 0", rest(b, 0, 0), fraction(Bench.row(6), 2, 1));
            dueFrac("rest -1", rest(b, 0, -1), Model.Fr.ZERO);
            dueFrac("rest -2", rest(b, 0, -2), Model.Fr.ZERO);
        });
        Bench.sentence("left: the greatest denominators that terms and u can give", b -> {
            setMostPoles(b);
            for (int i = 2; i >= 0; i--) {
                Model.Fr r = rest(b, 0, i);
                dueSquareFree(r);
                Bench.due("polynomial part of rest " + i, Model.deg(whole(r)), -1);
            }
            // The four poles of f(0), three of u, the two of f(1) and that of f(2), which was there four times.
            Bench.due(Model.deg(rest(b, 0, 0).d()), 10);
            Bench.due(b.x.asked(0, 4), 10);
            // The four poles of f(1), three of u, and two of f(2).
            b.set(0, 2, "1/((x+10)*(x+11))^2");
            b.set(0, 1, "1/((x+20)*(x+21)*(x^2+2))");
            Bench.due(Model.deg(rest(b, 0, 1).d()), 9);
            dueSquareFree(rest(b, 0, 1));
        });
    }

    /** A logarithm and a function 0 whose rest 0 has as many poles as there can be. */
    private static void setMostPoles(Bench b) {
        b.x.tower(2, 6, 11, 6, 1);
        b.set(0, 2, "1/(x+30)^4");
        b.set(0, 1, "1/((x+10)*(x+11))^2");
        b.set(0, 0, "1/((x+20)*(x+21)*(x^2+2))");
    }

    // ---- promise 20

    private static void residue() {
        Bench.sentence("residue: f: the function, 0 to 2", b -> Bench.dueRange(f -> b.x.residue(f, 0), 0, 2));
        Bench.sentence("residue: k: the power of z, 0 or more", b -> Bench.dueRange(k -> b.x.residue(0, k), 0, MAX));
        Bench.sentence("residue: NOT if the function does not fit the tower", b -> {
            b.set(0, 1, "1");
            Bench.due(b.x.residue(0, 0), NOT);
            Bench.due(b.x.residue(0, -1), BAD);
            Bench.due(b.x.residue(3, 0), BAD);
            b.x.tower(2, 0, 1, 0, 0);
            Bench.due(b.x.residue(0, 0), 1);
            b.set(0, -1, "1");
            Bench.due(b.x.residue(0, 0), NOT);
        });
        Bench.sentence("R, which is the polynomial in z with head 1 and of the degree of s", b -> {
            Bench.dueRow("R of 0", k -> b.x.residue(0, k), 1);
            b.set(0, 0, "x^2+1/x^4");
            Bench.dueRow("R without a rest", k -> b.x.residue(0, k), 1);
            b.set(0, 0, "7/x");
            Bench.dueRow("R of one residue", k -> b.x.residue(0, k), 94, 1);
            b.set(0, 0, "100/x");
            Bench.dueRow("R of -1", k -> b.x.residue(0, k), 1, 1);
            b.set(0, 0, "1/x+1/(x+1)+1/(x+2)+1/(x+3)");
            Bench.dueRow("R of four alike", k -> b.x.residue(0, k), 1, 97, 6, 97, 1);
            b.set(0, 0, "1/(x^4+2)");
            // At a zero y of x^4 + 2 the residue is 1 / (4 * y^3) = y / -8: R is z^4 + 2 / 8^4 = z^4 + 1 / 2048.
            Bench.dueRow("R of a quartic", k -> b.x.residue(0, k), Model.inv(2048 % 101), 0, 0, 0, 1);
            b.set(0, 0, "1/(x*(x+1)*(x+2)*(x+3))");
            // The residues are 1/6, -1/2, 1/2 and -1/6: R is (z^2 - 1/36) * (z^2 - 1/4).
            int d = Model.inv(36);
            int e = Model.inv(4);
            Bench.dueRow("R of four", k -> b.x.residue(0, k), d * e % 101, 0, 202 - d - e, 0, 1);
        });
        Bench.sentence("residue: of r(0) alone, which has the most poles with a logarithm", b -> {
            setMostPoles(b);
            Model.Fr r = rest(b, 0, 0);
            int[] want = Model.residues(r);
            Bench.due(Model.deg(want), Model.deg(r.d()));
            Bench.dueRow("R", k -> b.x.residue(0, k), want);
        });
    }

    // ---- promise 21

    private static void log() {
        Bench.sentence("log: f: the function, 0 to 2", b -> Bench.dueRange(f -> b.x.log(f, 0, 0, 0), 0, 2));
        Bench.sentence("log: j: the index of the logarithm, 0 or more, in ascending order of the residues", b -> {
            Bench.dueRange(j -> b.x.log(0, j, 0, 0), 0, MAX);
            b.set(0, 0, "100/x+50/(x+1)+1/(x+2)+51/(x+3)");
            int[] residues = {1, 50, 51, 100};
            int[] poles = {2, 1, 3, 0};
            for (int j = 0; j < 4; j++) {
                int index = j;
                Bench.due(b.x.log(0, j, 0, 0), residues[j]);
                Bench.dueRow("v of " + residues[j], k -> b.x.log(0, index, 1, k), poles[j], 1);
            }
            Bench.due(b.x.log(0, 4, 0, 0), NONE);
            Bench.due(b.x.log(0, 4, 1, 0), NONE);
        });
        Bench.sentence("log: what: 0 for the residue c, 1 for a coefficient of v", b -> {
            b.set(0, 0, "9/(x+4)");
            Bench.dueRange(what -> b.x.log(0, 0, what, 0), 0, 1);
            Bench.due(b.x.log(0, 0, 0, 0), 9);
            Bench.due(b.x.log(0, 0, 1, 0), 4);
        });
        Bench.sentence("k: the power of x, 0 or more (also if what is 0, where it does not matter otherwise)", b -> {
            b.set(0, 0, "9/(x+4)");
            Bench.dueRange(k -> b.x.log(0, 0, 0, k), 0, MAX);
            Bench.dueRange(k -> b.x.log(0, 0, 1, k), 0, MAX);
            for (int k : new int[] {0, 1, 2, 100, MAX}) {
                Bench.due(b.x.log(0, 0, 0, k), 9);
            }
            Bench.due(b.x.log(0, 9, 0, -1), BAD);
        });
        Bench.sentence("log: NOT if the function does not fit the tower", b -> {
            b.set(0, 0, "1/x");
            b.set(0, 1, "1");
            Bench.due(b.x.log(0, 0, 0, 0), NOT);
            Bench.due(b.x.log(0, 5, 0, 0), NOT);
            Bench.due(b.x.log(0, -1, 0, 0), BAD);
            Bench.due(b.x.log(0, 0, 0, -1), BAD);
            Bench.due(b.x.log(0, 0, 2, 0), BAD);
        });
        Bench.sentence("log: NONE if there is no such logarithm", b -> {
            Bench.due(b.x.log(0, 0, 0, 0), NONE);
            Bench.due(b.x.log(0, 0, 1, MAX), NONE);
            b.set(0, 0, "1/(x^2+2)");
            Bench.due(b.x.log(0, 0, 0, 0), NONE);
            b.set(0, 0, "1/x");
            Bench.due(b.x.log(0, 0, 0, 0), 1);
            Bench.due(b.x.log(0, 1, 0, 0), NONE);
            Bench.due(b.x.log(0, MAX, 1, MAX), NONE);
        });
        Bench.sentence("v, the greatest common divisor, with head 1, of a - c * s' and s", b -> {
            b.set(0, 0, "3/x+3/(x+1)+3/(x+2)+3/(x+3)");
            Bench.due(b.x.log(0, 0, 0, 0), 3);
            Bench.dueRow("v of all", k -> b.x.log(0, 0, 1, k), 0, 6, 11, 6, 1);
            b.set(0, 0, "8*x^3/(x^4+2)");
            Bench.due(b.x.log(0, 0, 0, 0), 2);
            Bench.dueRow("v of a quartic", k -> b.x.log(0, 0, 1, k), 2, 0, 0, 0, 1);
            b.set(0, 0, "10*x/(x^2+2)+1/(x+1)+1/(x+3)");
            Bench.dueRow("v of 1", k -> b.x.log(0, 0, 1, k), 3, 4, 1);
            Bench.dueRow("v of 5", k -> b.x.log(0, 1, 1, k), 2, 0, 1);
            // Also where there is no integral.
            b.x.tower(1, 0, 1, 0, 0);
            b.set(0, 1, "1/x");
            Bench.due(b.x.asked(0, 0), 0);
            Bench.due(b.x.log(0, 1, 0, 0), 5);
        });
        Bench.sentence("The open degree is the degree of s minus the sum of the degrees of all v.", b -> {
            setMostPoles(b);
            int[] r = Model.residues(rest(b, 0, 0));
            int[] s = rest(b, 0, 0).d();
            int found = 0;
            int open = 10;
            for (int c = 0; c <= 100; c++) {
                if (Model.value(r, c) == 0) {
                    int[] v = Model.gcd(Model.add(rest(b, 0, 0).n(), Model.slope(s), -c), s);
                    int j = found;
                    Bench.due(b.x.log(0, j, 0, 0), c);
                    Bench.dueRow("v of " + c, k -> b.x.log(0, j, 1, k), v);
                    found++;
                    open -= Model.deg(v);
                }
            }
            Bench.due("logarithms are there", found > 0, true);
            Bench.due(b.x.asked(0, 2), found);
            Bench.due(b.x.asked(0, 3), open);
            Bench.due(b.x.log(0, found, 0, 0), NONE);
        });
        Bench.sentence("For each number c that is a residue, in ascending order, there is a logarithm", b -> {
            for (int c = 1; c <= 100; c++) {
                b.renew();
                b.set(0, 0, c + "/(x+" + c + ")");
                Bench.due(b.x.asked(0, 2), 1);
                Bench.due(b.x.log(0, 0, 0, 0), c);
                Bench.due(b.x.log(0, 0, 1, 0), c);
            }
        });
    }

    // ---- promise 22

    private static void duePencil(Bench b, int f, int g, int many, int least) {
        Bench.due("how many", b.x.pencil(f, g, 0), many);
        Bench.due("the least", b.x.pencil(f, g, 1), least);
    }

    private static void pencil() {
        Bench.sentence("pencil: f: a function, 0 to 2", b -> Bench.dueRange(f -> b.x.pencil(f, 0, 0), 0, 2));
        Bench.sentence("pencil: g: a function, 0 to 2, perhaps the same", b -> {
            Bench.dueRange(g -> b.x.pencil(0, g, 0), 0, 2);
            b.x.tower(1, 0, 1, 0, 0);
            b.set(0, 1, "1/x");
            duePencil(b, 0, 0, 1, 100);
            b.set(0, 1, "x");
            duePencil(b, 0, 0, 101, 0);
        });
        Bench.sentence("pencil: what: 0 for how many there are, 1 for the least one", b -> Bench.dueRange(what -> b.x.pencil(0, 0, what), 0, 1));
        Bench.sentence("the numbers c for which the function f + c * g has an integral: none, one from 0 to 100, all", b -> {
            b.set(0, 0, "1/x");
            b.set(1, 0, "1/(x+1)");
            duePencil(b, 0, 1, 101, 0);
            b.x.tower(1, 0, 1, 0, 0);
            duePencil(b, 0, 1, 101, 0);
            for (int i : new int[] {-2, -1, 1, 2}) {
                b.renew();
                b.x.tower(1, 0, 1, 0, 0);
                for (int c = 0; c <= 100; c += 10) {
                    b.set(0, i, (101 - c) % 101 + "/x");
                    b.set(1, i, "1/x");
                    duePencil(b, 0, 1, 1, c);
                    b.set(0, i, "x");
                    b.set(1, i, "x^2+5");
                    duePencil(b, 0, 1, 101, 0);
                    b.set(0, i, "1/x");
                    duePencil(b, 0, 1, 0, NONE);
                    duePencil(b, 1, 0, 1, 0);
                    b.set(1, i, "1/(x+1)");
                    duePencil(b, 0, 1, 0, NONE);
                }
            }
        });
        Bench.sentence("pencil: each term has its say", b -> {
            for (int kind = 1; kind <= 2; kind++) {
                for (int i = -2; i <= 2; i++) {
                    if (i == 0 || i == 1 || kind == 2 && i < 0) {
                        continue;
                    }
                    b.renew();
                    b.x.tower(kind, 2, 1, 0, 0);
                    b.set(0, 1, "1/x");
                    b.set(1, 1, "2/x");
                    duePencil(b, 0, 1, 1, 50);
                    b.set(0, i, "1/(x+1)");
                    duePencil(b, 0, 1, 0, NONE);
                    b.set(1, i, "2/(x+1)");
                    duePencil(b, 0, 1, 1, 50);
                    b.set(1, i, "3/(x+1)");
                    duePencil(b, 0, 1, 0, NONE);
                }
            }
        });
        Bench.sentence("pencil: with a logarithm rests that are numbers times u' / u are no obstacle", b -> {
            b.x.tower(2, 2, 0, 1, 0);
            for (int i = 1; i <= 2; i++) {
                b.set(0, i, "(x+1)/(x^2+2)");
                b.set(1, i, "(5*x+100)/(x^2+2)");
                duePencil(b, 0, 1, 1, 1);
                duePencil(b, 1, 0, 1, 1);
                b.set(1, i, "5*x/(x^2+2)");
                duePencil(b, 0, 1, 0, NONE);
                duePencil(b, 1, 0, 1, 0);
                duePencil(b, 1, 1, 101, 0);
                b.set(0, i, "0");
                duePencil(b, 0, 1, 101, 0);
                b.set(1, i, "0");
            }
        });
        Bench.sentence("pencil: NOT if one of the functions does not fit the tower", b -> {
            b.set(0, 1, "1");
            for (int what = 0; what <= 1; what++) {
                Bench.due(b.x.pencil(0, 1, what), NOT);
                Bench.due(b.x.pencil(1, 0, what), NOT);
                Bench.due(b.x.pencil(0, 0, what), NOT);
            }
            Bench.due(b.x.pencil(0, 3, 0), BAD);
            Bench.due(b.x.pencil(3, 0, 0), BAD);
            Bench.due(b.x.pencil(0, 1, 2), BAD);
            Bench.due(b.x.pencil(1, 0, -1), BAD);
            duePencil(b, 1, 2, 101, 0);
        });
        Bench.sentence("pencil: NONE if what is 1 and there is none", b -> {
            b.x.tower(1, 0, 1, 0, 0);
            b.set(0, 1, "1/x");
            duePencil(b, 0, 1, 0, NONE);
            b.x.tower(0, 0, 0, 0, 0);
            Bench.due(b.x.pencil(0, 1, 1), NOT);
        });
        Bench.sentence("pencil: with a logarithm the parts of greater terms count in the rests of lesser ones", b -> {
            b.x.tower(2, 0, 1, 0, 0);
            b.set(0, 1, "x+1/(x+1)");
            b.set(1, 1, "x^2+5/(x+1)");
            duePencil(b, 0, 1, 1, 20);
            duePencil(b, 1, 0, 1, 96);
            // (t^2 / (x + 1))' is -t^2 / (x + 1)^2 + 2 * t / x - 2 * t / (x + 1), and only the last one is in need of g.
            b.renew();
            b.x.tower(2, 0, 1, 0, 0);
            b.set(0, 2, "100/(x+1)^2");
            b.set(1, 1, "1/(x+1)");
            duePencil(b, 0, 1, 1, 99);
            duePencil(b, 1, 0, 1, 50);
            b.set(1, 0, "1/(x+7)");
            duePencil(b, 0, 1, 1, 99);
        });
        Bench.sentence("pencil: nothing is limited where f + c * g is more than a term can be", b -> {
            b.set(0, 0, "1/x^4");
            b.set(1, 0, "1/(x+1)^4");
            duePencil(b, 0, 1, 101, 0);
            // (t / x^3)' and (t / (x + 1)^3)', whose sum has a denominator of degree 8.
            b.x.tower(1, 0, 1, 0, 0);
            b.set(0, 1, "(x+98)/x^4");
            b.set(1, 1, "(x+99)/(x+1)^4");
            duePencil(b, 0, 1, 101, 0);
            // (t / x^2)' + 7 * t / (x + 2), and (t / (x + 1)^2)' - t / (x + 2): what is left of both vanishes for 7 alone.
            b.set(0, 1, "(x+99)/x^3+7/(x+2)");
            b.set(1, 1, "(x+100)/(x+1)^3-1/(x+2)");
            duePencil(b, 0, 1, 1, 7);
            b.renew();
            b.x.tower(1, 0, 0, 0, 1);
            b.set(0, 1, "x^6/(x^4+2)");
            b.set(1, 1, "x^6/(x^4+3)");
            duePencil(b, 0, 1, 0, NONE);
            b.set(1, 1, "7/(x+1)^4");
            b.set(0, 1, "3*x^2");
            duePencil(b, 0, 1, 1, 0);
            Bench.due(b.x.count(5), 5);
        });
    }
}
