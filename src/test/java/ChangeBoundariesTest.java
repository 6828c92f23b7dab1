import java.math.BigInteger;

/** The boundary cases of the tower and of all that changes functions, and of the promises 9 to 14, 23 and 24. */
public final class ChangeBoundariesTest {
    private static final int BAD = Bench.BAD, NOT = Bench.NOT, FULL = Bench.FULL, NONE = Bench.NONE;
    private static final int MIN = Bench.MIN, MAX = Bench.MAX;

    public static void main(String[] args) {
        tower();
        fitting();
        joinArguments();
        joinProducts();
        joinQuotients();
        derive();
        drift();
        undo();
        seed();
        images();
        Bench.finish();
    }

    // ---- promise 9

    private static void tower() {
        Bench.sentence("tower: kind: the kind, 0 to 2", b -> Bench.dueRange(kind -> b.x.tower(kind, 0, kind == 0 ? 0 : 1, 0, 0), 0, 2));
        Bench.sentence("tower: a: a number, 0 to 100", b -> Bench.dueRange(v -> b.x.tower(1, v, 1, 0, 0), 0, 100));
        Bench.sentence("tower: b: a number, 0 to 100", b -> Bench.dueRange(v -> b.x.tower(1, 0, v, 0, 0), 0, 100));
        Bench.sentence("tower: c: a number, 0 to 100", b -> Bench.dueRange(v -> b.x.tower(1, 0, 0, v, 0), 0, 100));
        Bench.sentence("tower: d: a number, 0 to 100", b -> Bench.dueRange(v -> b.x.tower(1, 0, 0, 0, v), 0, 100));
        Bench.sentence("Returns the degree of u, 0 if the kind is plain", b -> {
            for (int kind = 1; kind <= 2; kind++) {
                Bench.due(b.x.tower(kind, 0, 1, 0, 0), 1);
                Bench.due(b.x.tower(kind, 100, 100, 0, 0), 1);
                Bench.due(b.x.tower(kind, 0, 0, 1, 0), 2);
                Bench.due(b.x.tower(kind, 100, 100, 100, 0), 2);
                Bench.due(b.x.tower(kind, 0, 0, 0, 1), 3);
                Bench.due(b.x.tower(kind, 100, 100, 100, 100), 3);
                Bench.due(b.x.tower(0, 0, 0, 0, 0), 0);
            }
        });
        Bench.sentence("BAD if the kind is plain and one of the numbers is not 0", b -> {
            b.x.tower(1, 5, 6, 7, 8);
            Bench.due(b.x.tower(0, 1, 0, 0, 0), BAD);
            Bench.due(b.x.tower(0, 0, 1, 0, 0), BAD);
            Bench.due(b.x.tower(0, 0, 0, 1, 0), BAD);
            Bench.due(b.x.tower(0, 0, 0, 0, 1), BAD);
            Bench.due(b.x.tower(0, 5, 6, 7, 8), BAD);
            Bench.due(b.x.tower(0, 0, 0, 0, 0), 0);
            // BAD also if the tower is plain already.
            Bench.due(b.x.tower(0, 0, 0, 0, 100), BAD);
        });
        Bench.sentence("NOT if the kind is not plain and u has no degree from 1 to 3", b -> {
            for (int kind = 1; kind <= 2; kind++) {
                for (int a : new int[] {0, 1, 100}) {
                    Bench.due(b.x.tower(kind, a, 0, 0, 0), NOT);
                }
                Bench.due(b.x.tower(kind, 101, 0, 0, 0), BAD);
                Bench.due(b.x.tower(kind, -1, 0, 0, 0), BAD);
            }
            Bench.due(b.x.count(5), 0);
        });
        Bench.sentence("NOT if the tower is so already", b -> {
            Bench.due(b.x.tower(0, 0, 0, 0, 0), NOT);
            int[][] towers = {{1, 1, 2, 3, 4}, {2, 1, 2, 3, 4}, {2, 0, 2, 3, 4}, {2, 0, 1, 3, 4}, {2, 0, 1, 2, 4}, {2, 0, 1, 2, 3}, {0, 0, 0, 0, 0}};
            int[] degrees = {3, 3, 3, 3, 3, 3, 0};
            for (int k = 0; k < towers.length; k++) {
                int[] t = towers[k];
                Bench.due(b.x.tower(t[0], t[1], t[2], t[3], t[4]), degrees[k]);
                Bench.due(b.x.tower(t[0], t[1], t[2], t[3], t[4]), NOT);
            }
            Bench.due(b.x.count(5), 6);
        });
        Bench.sentence("The functions stay as they are. This is a change.", b -> {
            b.set(0, -2, "1/x");
            b.set(1, 1, "x");
            Bench.due(b.x.tower(2, 0, 1, 0, 0), 1);
            Bench.due(b.x.count(5), 3);
            b.dueText(0, -2, "(1)/(x)");
            b.dueText(1, 1, "x");
            Bench.due(b.x.tower(0, 0, 0, 0, 0), 0);
            b.dueText(0, -2, "(1)/(x)");
            b.dueText(1, 1, "x");
            Bench.due(b.x.count(5), 4);
            Bench.due(b.x.undo(), 3);
            Bench.due(b.x.count(0), 2);
            Bench.due(b.x.count(2), 1);
        });
    }

    private static void fitting() {
        Bench.sentence("A function fits the tower if all its terms are 0 except f(0) (plain) or f(0), f(1) and f(2) (logarithm)", b -> {
            for (int i = -2; i <= 2; i++) {
                for (int kind = 0; kind <= 2; kind++) {
                    boolean fits = kind == 1 || i == 0 || kind == 2 && i > 0;
                    b.renew();
                    b.set(0, i, "1");
                    b.x.tower(kind, 0, kind == 0 ? 0 : 1, 0, 0);
                    Bench.due("fit of term " + i + " with kind " + kind, b.x.told(0, 3), fits ? 1 : 0);
                    // All that wants a fitting function says so.
                    Bench.due(b.x.asked(0, 2) == NOT ? 0 : 1, fits ? 1 : 0);
                    Bench.due(b.x.left(0, 0, 0, 0) == NOT ? 0 : 1, fits ? 1 : 0);
                    Bench.due(b.x.integral(0, 0, 0, 0) == NOT ? 0 : 1, fits ? 1 : 0);
                    Bench.due(b.x.residue(0, 0) == NOT ? 0 : 1, fits ? 1 : 0);
                    Bench.due(b.x.log(0, 0, 0, 0) == NOT ? 0 : 1, fits ? 1 : 0);
                    Bench.due(b.x.pencil(0, 1, 0) == NOT ? 0 : 1, fits ? 1 : 0);
                    Bench.due(b.x.pencil(1, 0, 0) == NOT ? 0 : 1, fits ? 1 : 0);
                    Bench.due(b.x.derive(2, 0) == NOT ? 0 : 1, fits ? 1 : 0);
                }
            }
        });
    }

    // ---- promise 10

    private static void joinArguments() {
        Bench.sentence("join: f: the function that is set, 0 to 2", b -> Bench.dueRange(f -> b.x.join(f, 0, 0, 0), 0, 2));
        Bench.sentence("join: act: 0 for g + h .. 3 for g / h", b -> {
            b.set(1, 0, "1");
            Bench.dueRange(act -> b.x.join(0, act, 1, 1), 0, 3);
        });
        Bench.sentence("join: g: the first operand, 0 to 2", b -> Bench.dueRange(g -> b.x.join(0, 0, g, 0), 0, 2));
        Bench.sentence("join: h: the second operand, 0 to 2", b -> Bench.dueRange(h -> b.x.join(0, 0, 0, h), 0, 2));
        Bench.sentence("0 for g + h, 1 for g - h", b -> {
            for (int i = -2; i <= 2; i++) {
                b.renew();
                b.set(0, i, "x");
                b.set(1, i, "x+100");
                Bench.due(b.x.join(2, 0, 0, 1), 1 << i + 2);
                b.dueText(2, i, "2*x+100");
                Bench.due(b.x.join(2, 1, 0, 1), 1 << i + 2);
                b.dueText(2, i, "1");
                Bench.due(b.x.join(2, 1, 1, 0), 1 << i + 2);
                b.dueText(2, i, "100");
                b.set(1, i, "100*x");
                Bench.due(b.x.join(2, 0, 0, 1), 0);
                b.dueText(2, i, "0");
            }
            // A limit that only one of the terms exceeds, the first or the last one.
            for (int i : new int[] {-2, 2}) {
                b.renew();
                b.set(0, i, "x^6");
                b.set(0, -i, "1");
                b.set(1, i, "1/x");
                Bench.due(b.x.join(2, 0, 0, 1), FULL);
                Bench.due(b.x.join(2, 1, 0, 1), FULL);
                Bench.due(b.x.told(2, 0), 0);
            }
        });
        Bench.sentence("Sets function f to the result of an operation with the functions g and h, as they are before.", b -> {
            for (int f = 0; f <= 1; f++) {
                b.renew();
                b.set(0, 1, "x");
                b.set(0, -1, "1/x");
                b.set(1, 1, "2");
                b.set(1, -1, "3");
                Bench.due(b.x.join(f, 2, 0, 1), 0b10101);
                b.dueText(f, 2, "2*x");
                b.dueText(f, 0, "(3*x^2+2)/(x)");
                b.dueText(f, -2, "(3)/(x)");
                b.dueText(f, 1, "0");
                b.dueText(1 - f, 1, f == 0 ? "2" : "x");
            }
            b.renew();
            b.set(2, 1, "x+1");
            Bench.due(b.x.join(2, 2, 2, 2), 16);
            b.dueText(2, 2, "x^2+2*x+1");
            Bench.due(b.x.join(2, 3, 2, 2), 4);
            b.dueText(2, 0, "1");
            Bench.due(b.x.join(2, 0, 2, 2), 4);
            b.dueText(2, 0, "2");
            Bench.due(b.x.join(2, 1, 2, 2), 0);
        });
        Bench.sentence("Whether they fit the tower does not matter. This is a change.", b -> {
            b.set(0, -2, "x");
            b.set(1, 2, "x");
            Bench.due(b.x.told(0, 3) + b.x.told(1, 3), 0);
            Bench.due(b.x.join(2, 2, 0, 1), 4);
            Bench.due(b.x.count(5), 3);
            b.x.tower(2, 0, 1, 0, 0);
            Bench.due(b.x.join(2, 2, 0, 1), 4);
            Bench.due(b.x.join(2, 0, 0, 1), 17);
            Bench.due(b.x.undo(), 5);
            Bench.due(b.x.told(2, 0), 4);
        });
    }

    private static void joinProducts() {
        Bench.sentence("FULL if one with t^i for an i below -2 or above 2 would not be 0", b -> {
            for (int i = -2; i <= 2; i++) {
                for (int j = -2; j <= 2; j++) {
                    b.renew();
                    b.set(0, i, "2");
                    b.set(1, j, "3");
                    int sum = i + j;
                    boolean fits = sum >= -2 && sum <= 2;
                    Bench.due("t^" + i + " * t^" + j, b.x.join(2, 2, 0, 1), fits ? 1 << sum + 2 : FULL);
                    b.dueText(2, fits ? sum : 0, fits ? "6" : "0");
                    int difference = i - j;
                    fits = difference >= -2 && difference <= 2;
                    Bench.due("t^" + i + " / t^" + j, b.x.join(2, 3, 0, 1), fits ? 1 << difference + 2 : FULL);
                    Bench.due(b.x.count(5), 2 + (sum >= -2 && sum <= 2 ? 1 : 0) + (fits ? 1 : 0));
                }
            }
        });
        Bench.sentence("FULL if a term of the result would exceed the limits", b -> {
            // t^3 vanishes, t^4 does not.
            b.set(0, 1, "1");
            b.set(0, 2, "1");
            b.set(1, 1, "100");
            b.set(1, 2, "1");
            Bench.due(b.x.join(2, 2, 0, 1), FULL);
            // By 0 nothing is too great.
            for (int i = -2; i <= 2; i++) {
                b.set(0, i, "x^6/(x^4+2)");
            }
            Bench.due(b.x.join(1, 2, 0, 2), 0);
            Bench.due(b.x.join(1, 2, 2, 0), 0);
            // Products that exceed the limits, and whose sum does not: t^0 has x^7 - x^7, but t^2 has x^7.
            b.renew();
            b.set(0, 1, "x^6");
            b.set(0, -1, "x^6");
            b.set(1, 1, "x");
            b.set(1, -1, "100*x");
            Bench.due(b.x.join(2, 2, 0, 1), FULL);
            b.renew();
            b.set(0, 1, "x^3");
            b.set(0, 0, "x^3");
            b.set(1, 0, "x^3");
            Bench.due(b.x.join(2, 2, 0, 1), 0b01100);
            b.dueText(2, 1, "x^6");
            b.set(0, 0, "x^4");
            Bench.due(b.x.join(2, 2, 0, 1), FULL);
            b.dueText(2, 1, "x^6");
            b.set(1, 0, "1/x^3");
            b.set(0, 1, "1/(x+1)");
            Bench.due(b.x.join(2, 2, 0, 1), 0b01100);
            b.dueText(2, 1, "(1)/(x^4+x^3)");
            b.set(0, 1, "1/(x+1)^2");
            Bench.due(b.x.join(2, 2, 0, 1), FULL);
        });
        Bench.sentence("the limits hold for the terms of the result: products and their sums are not limited in between", b -> {
            // t^1: 1/(x^2*(x+1)^3) - 1/x^2, where the first product has a denominator of degree 5, and the sum one of 4.
            b.set(0, 0, "1/(x*(x+1)^2)");
            b.set(0, 1, "100/x");
            b.set(1, 0, "1/x");
            b.set(1, 1, "1/(x*(x+1))");
            Bench.due(b.x.join(2, 2, 0, 1), 0b11100);
            b.dueText(2, 0, "(1)/(x^4+2*x^3+x^2)");
            b.dueText(2, 1, "(100*x^2+98*x+98)/(x^4+3*x^3+3*x^2+x)");
            b.dueText(2, 2, "(100)/(x^3+x^2)");
            Bench.due(b.x.join(2, 2, 1, 0), 0b11100);
            b.dueText(2, 1, "(100*x^2+98*x+98)/(x^4+3*x^3+3*x^2+x)");
            // The same one power of t lower, and with an operand that is set.
            b.renew();
            b.set(0, -1, "1/(x*(x+1)^2)");
            b.set(0, 0, "100/x");
            b.set(1, -1, "1/x");
            b.set(1, 0, "1/(x*(x+1))");
            Bench.due(b.x.join(0, 2, 0, 1), 0b00111);
            b.dueText(0, -1, "(100*x^2+98*x+98)/(x^4+3*x^3+3*x^2+x)");
        });
        Bench.sentence("a term of a product is reduced before its limits count", b -> {
            b.set(0, 1, "x^6");
            b.set(1, 1, "(x+1)/x");
            Bench.due(b.x.join(2, 2, 0, 1), 0b10000);
            b.dueText(2, 2, "x^6+x^5");
            b.set(0, 1, "1/x^4");
            b.set(1, 1, "x/(x+1)");
            Bench.due(b.x.join(2, 2, 0, 1), 0b10000);
            b.dueText(2, 2, "(1)/(x^4+x^3)");
        });
        Bench.sentence("t^i * t^j is t^(i + j): a product of five terms by one, and the sum of five products", b -> {
            for (int i = -2; i <= 2; i++) {
                b.set(0, i, "x+" + (i + 3));
            }
            b.set(1, 0, "2");
            Bench.due(b.x.join(2, 2, 0, 1), 31);
            for (int i = -2; i <= 2; i++) {
                b.dueText(2, i, "2*x+" + 2 * (i + 3));
            }
            Bench.due(b.x.join(2, 2, 1, 0), 31);
            b.set(1, 0, "0");
            b.set(1, 1, "1");
            Bench.due(b.x.join(2, 2, 0, 1), FULL);
            b.set(0, 2, "0");
            Bench.due(b.x.join(2, 2, 0, 1), 30);
            b.dueText(2, 2, "x+4");
            b.dueText(2, -1, "x+1");
            b.renew();
            for (int i = -1; i <= 1; i++) {
                b.set(0, i, "x");
                b.set(1, i, "1");
            }
            Bench.due(b.x.join(2, 2, 0, 1), 31);
            b.dueText(2, -2, "x");
            b.dueText(2, -1, "2*x");
            b.dueText(2, 0, "3*x");
            b.dueText(2, 1, "2*x");
            b.dueText(2, 2, "x");
        });
    }

    private static void joinQuotients() {
        Bench.sentence("NOT if act is 3 and h does not have exactly one term that is not 0", b -> {
            Bench.due(b.x.join(0, 3, 0, 0), NOT);
            for (int i = -2; i <= 2; i++) {
                b.renew();
                Bench.due(b.x.join(2, 3, 0, 1), NOT);
                b.set(1, i, "x^2");
                Bench.due(b.x.join(2, 3, 0, 1), 0);
                Bench.due(b.x.join(2, 3, 1, 1), 4);
                for (int j = -2; j <= 2; j++) {
                    if (j != i) {
                        b.set(1, j, "x");
                        Bench.due(b.x.join(2, 3, 0, 1), NOT);
                        b.set(1, j, "0");
                    }
                }
            }
            for (int i = -2; i <= 2; i++) {
                b.set(1, i, "1");
            }
            Bench.due(b.x.join(2, 3, 0, 1), NOT);
            // How many g has does not matter.
            b.set(0, 0, "x");
            Bench.due(b.x.join(2, 3, 1, 0), 31);
            b.dueText(2, 2, "(1)/(x)");
            // It counts before FULL, and behind BAD.
            b.renew();
            b.set(0, 2, "x^6");
            b.set(1, -2, "1/x");
            b.set(1, -1, "1/x");
            Bench.due(b.x.join(2, 3, 0, 1), NOT);
            Bench.due(b.x.join(3, 3, 0, 1), BAD);
            for (int act = 0; act <= 1; act++) {
                Bench.due(b.x.join(2, act, 0, 1), 19);
            }
        });
        Bench.sentence("3 for g / h: limits", b -> {
            b.set(0, 0, "x^5");
            b.set(1, 0, "1/x");
            Bench.due(b.x.join(2, 3, 0, 1), 4);
            b.dueText(2, 0, "x^6");
            Bench.due(b.x.join(0, 3, 2, 1), FULL);
            b.set(0, 0, "1/x^3");
            b.set(1, 0, "x");
            Bench.due(b.x.join(2, 3, 0, 1), 4);
            b.dueText(2, 0, "(1)/(x^4)");
            Bench.due(b.x.join(0, 3, 2, 1), FULL);
            b.dueText(0, 0, "(1)/(x^3)");
            b.set(1, 0, "x^6+1");
            b.set(0, 0, "1");
            Bench.due(b.x.join(2, 3, 0, 1), FULL);
            Bench.due(b.x.join(2, 3, 1, 1), 4);
            b.dueText(2, 0, "1");
            // Reduced before the limits count.
            b.set(0, 0, "x^6");
            b.set(1, 0, "x^4/(x+1)^2");
            Bench.due(b.x.join(2, 3, 0, 1), 4);
            b.dueText(2, 0, "x^4+2*x^3+x^2");
            b.set(0, 0, "x^3/(x+1)^4");
            b.set(1, 0, "x^5/(x+1)^3");
            Bench.due(b.x.join(2, 3, 0, 1), 4);
            b.dueText(2, 0, "(1)/(x^3+x^2)");
        });
    }

    // ---- promise 11

    private static void derive() {
        Bench.sentence("derive: f: the function that is set, 0 to 2", b -> Bench.dueRange(f -> b.x.derive(f, 0), 0, 2));
        Bench.sentence("derive: g: the function that is derived, 0 to 2", b -> Bench.dueRange(g -> b.x.derive(0, g), 0, 2));
        Bench.sentence("Derivatives are formal: that of x^k is k * x^(k - 1)", b -> {
            String[] want = {"0", "1", "2*x", "3*x^2", "4*x^3", "5*x^4", "6*x^5"};
            for (int k = 0; k <= 6; k++) {
                b.renew();
                b.set(0, 0, "x^" + k);
                Bench.due(b.x.derive(1, 0), k == 0 ? 0 : 4);
                b.dueText(1, 0, want[k]);
            }
        });
        Bench.sentence("that of a / b is (a' * b - a * b') / (b * b)", b -> {
            b.set(0, 0, "(x+2)/(x^2+3)");
            Bench.due(b.x.derive(0, 0), 4);
            b.dueText(0, 0, "(100*x^2+97*x+3)/(x^4+6*x^2+9)");
            b.set(0, 0, "1/x^3");
            Bench.due(b.x.derive(0, 0), 4);
            b.dueText(0, 0, "(98)/(x^4)");
            b.set(0, 0, "1/(x^3+1)");
            Bench.due(b.x.derive(0, 0), FULL);
        });
        Bench.sentence("exponential: f(i)' + i * u' * f(i) for i = -2 to 2", b -> {
            b.x.tower(1, 50, 3, 0, 0);
            for (int i = -2; i <= 2; i++) {
                b.set(0, i, "1");
            }
            Bench.due(b.x.derive(1, 0), 0b11011);
            int[] want = {95, 98, 0, 3, 6};
            for (int i = -2; i <= 2; i++) {
                b.dueTerm(1, i, want[i + 2] == 0 ? Bench.row() : Bench.row(want[i + 2]), Bench.row(1));
            }
            // A cubic u: x^4 * u' has the degree 6, x^5 * u' is too much, and x^6 is not where i is 0.
            b.x.tower(1, 0, 0, 0, 1);
            for (int i = -2; i <= 2; i++) {
                b.set(0, i, "x^4");
            }
            Bench.due(b.x.derive(1, 0), 31);
            b.dueText(1, -2, "95*x^6+4*x^3");
            b.dueText(1, 2, "6*x^6+4*x^3");
            b.set(0, 0, "x^6");
            Bench.due(b.x.derive(1, 0), 31);
            b.dueText(1, 0, "6*x^5");
            for (int i = -2; i <= 2; i++) {
                if (i != 0) {
                    b.set(0, i, "x^5");
                    Bench.due(b.x.derive(1, 0), FULL);
                    b.set(0, i, "0");
                }
            }
        });
        Bench.sentence("logarithm: f(i)' + (i + 1) * f(i + 1) * u' / u for i = 0 to 2, where f(3) is 0", b -> {
            b.x.tower(2, 0, 1, 0, 0);
            b.set(0, 2, "1");
            Bench.due(b.x.derive(1, 0), 8);
            b.dueText(1, 1, "(2)/(x)");
            b.set(0, 2, "x");
            Bench.due(b.x.derive(1, 0), 0b11000);
            b.dueText(1, 2, "1");
            b.dueText(1, 1, "2");
            // f(3) is 0, whatever stands in other functions.
            b.set(1, 2, "x");
            b.set(1, 1, "0");
            for (int f : new int[] {0, 2}) {
                for (int i = -2; i <= 2; i++) {
                    b.set(f, i, "7*x");
                }
            }
            Bench.due(b.x.derive(1, 1), 0b11000);
            b.dueText(1, 2, "1");
            b.set(0, -2, "0");
            b.set(0, -1, "0");
            b.set(0, 2, "0");
            b.set(0, 1, "x^2");
            b.set(0, 0, "x^6");
            Bench.due(b.x.derive(1, 0), 0b01100);
            b.dueText(1, 1, "2*x");
            b.dueText(1, 0, "6*x^5+x");
            // With a cubic u the denominator has room for one more.
            b.x.tower(2, 2, 0, 0, 1);
            b.set(0, 0, "0");
            b.set(0, 1, "1/x");
            Bench.due(b.x.derive(1, 0), 0b01100);
            b.dueText(1, 0, "(3*x)/(x^3+2)");
            b.set(0, 1, "1/(x+1)");
            Bench.due(b.x.derive(1, 0), 0b01100);
            b.dueText(1, 0, "(3*x^2)/(x^4+x^3+2*x+2)");
            b.set(0, 1, "1/(x+1)^2");
            Bench.due(b.x.derive(1, 0), FULL);
        });
        Bench.sentence("derive: NOT if g does not fit the tower", b -> {
            b.set(0, 1, "x^6");
            Bench.due(b.x.derive(1, 0), NOT);
            b.x.tower(2, 0, 0, 1, 0);
            Bench.due(b.x.derive(1, 0), 12);
            b.set(0, -1, "1/x^4");
            Bench.due(b.x.derive(1, 0), NOT);
            Bench.due(b.x.derive(1, 3), BAD);
            Bench.due(b.x.derive(3, 0), BAD);
            b.x.tower(1, 0, 0, 1, 0);
            Bench.due(b.x.derive(1, 0), FULL);
            // Whether f fits does not matter.
            b.x.tower(0, 0, 0, 0, 0);
            Bench.due(b.x.derive(0, 2), 0);
            Bench.due(b.x.told(0, 0), 0);
        });
        Bench.sentence("derive: FULL if a term of the result would exceed the limits", b -> {
            for (int i = -2; i <= 2; i++) {
                b.renew();
                b.x.tower(1, 0, 1, 0, 0);
                b.set(0, 0, "x");
                b.set(0, i, "1/x^4");
                int changes = b.x.count(5);
                Bench.due(b.x.derive(0, 0), FULL);
                b.dueText(0, i, "(1)/(x^4)");
                Bench.due(b.x.count(5), changes);
                b.set(0, i, "1/x^3");
                Bench.due(b.x.derive(0, 0) & 1 << i + 2, 1 << i + 2);
                Bench.due(b.x.count(5), changes + 2);
            }
        });
        Bench.sentence("derive: the limits hold for the terms of the result: what is added to f(i)' may cancel poles of it", b -> {
            // With u = x, 2 * f(2) / x is 2/x^4, which is what the derivative of 2/3/x^3 lacks; f(1) has a denominator of degree 4.
            b.x.tower(2, 0, 1, 0, 0);
            b.set(0, 2, "1/x^3");
            b.set(0, 1, "2/(3*x^3)+1/(x+1)");
            b.set(0, 0, "2/(9*x^3)");
            Bench.due(b.x.derive(1, 0), 0b11100);
            b.dueText(1, 2, "(98)/(x^4)");
            b.dueText(1, 1, "(100)/(x^2+2*x+1)");
            b.dueText(1, 0, "(1)/(x^2+x)");
            // Without f(2) the pole of f(1)' stays.
            b.set(0, 2, "0");
            Bench.due(b.x.derive(1, 0), FULL);
        });
    }

    // ---- promise 12

    private static long draw(long[] random) {
        random[0] = (random[0] * 1103515245L + 12345L) % (1L << 31);
        return random[0] >> 16;
    }

    /** Returns the random number before this one. */
    private static long before(long random) {
        BigInteger inverse = BigInteger.valueOf(1103515245L).modInverse(BigInteger.ONE.shiftLeft(31));
        return BigInteger.valueOf(random - 12345L).multiply(inverse).mod(BigInteger.ONE.shiftLeft(31)).longValueExact();
    }

    private static int at(int[] p, int x) {
        int sum = 0;
        for (int k = p.length - 1; k >= 0; k--) {
            sum = (sum * x + p[k]) % 101;
        }
        return sum;
    }

    /** Divides a polynomial by x + a, which divides it. */
    private static int[] divided(int[] p, int a) {
        int[] q = new int[p.length - 1];
        int carry = 0;
        for (int k = p.length - 1; k >= 1; k--) {
            carry = (p[k] + carry * (101 - a)) % 101;
            q[k - 1] = carry;
        }
        return q;
    }

    /** One turn from this random number, by hand; returns how many times the fraction could be reduced. */
    private static int dueTurn(Bench b, int start) {
        b.renew();
        Bench.due(b.x.seed(start), 1);
        long[] random = {start};
        int v = (int) draw(random);
        int w = (int) draw(random);
        int z = (int) draw(random);
        int[] above = {w % 101, w / 101 % 101, w / 10201};
        int a = z / 4 % 101;
        int power = z % 4;
        boolean zero = above[0] == 0 && above[1] == 0 && above[2] == 0;
        int reduced = zero ? power : 0;
        while (!zero && reduced < power && at(above, (101 - a) % 101) == 0) {
            above = divided(above, a);
            reduced++;
        }
        int[] below = {1};
        for (int k = reduced; k < power; k++) {
            int[] next = new int[below.length + 1];
            for (int j = 0; j < below.length; j++) {
                next[j] = (next[j] + below[j] * a) % 101;
                next[j + 1] += below[j];
            }
            below = next;
        }
        b.x.drift(1);
        b.dueTerm(v % 3, v / 4 % 5 - 2, above, below);
        Bench.due(b.x.seed(0), (int) random[0]);
        return zero ? 4 : reduced;
    }

    /** Returns a random number for which w is c * (x + a)^2 and z is (x + a)^power. */
    private static int startOfSquare(int a, int c, int power) {
        int w = c * 10201 + 2 * a * c % 101 * 101 + a * a * c % 101;
        for (int low = 0; low < 65536 && w <= 32767; low++) {
            long[] random = {((long) w << 16) + low};
            int z = (int) draw(random);
            if (z % 4 == power && z / 4 % 101 == a) {
                return (int) before(before(((long) w << 16) + low));
            }
        }
        return 0;
    }

    private static void drift() {
        Bench.sentence("drift: n: the number of turns, 1 to 40", b -> {
            Bench.dueRange(n -> b.x.drift(n), 1, 40);
            b.renew();
            Bench.due(b.x.drift(0), BAD);
            Bench.due(b.x.drift(41), BAD);
            Bench.due(b.x.count(5), 0);
            Bench.due(b.x.seed(1), 1);
            b.x.drift(40);
            long[] random = {1};
            for (int k = 0; k < 120; k++) {
                draw(random);
            }
            Bench.due(b.x.seed(1), (int) random[0]);
        });
        Bench.sentence("the random number becomes its product with 1103515245, plus 12345, modulo 2^31, computed without overflow", b -> {
            for (int start : new int[] {0, 1, 2, 65535, 65536, 1 << 30, MAX - 1, MAX}) {
                dueTurn(b, start);
            }
        });
        Bench.sentence("its numerator is .. and its denominator is .. both are reduced", b -> {
            int[] seen = new int[5];
            for (int start = 0; start < 8000; start++) {
                seen[dueTurn(b, start)]++;
            }
            // w is the second number that is drawn: 0 makes the numerator 0, and 32767 is the greatest one.
            for (int w : new int[] {0, 1, 100, 101, 10200, 10201, 32767}) {
                for (int low = 0; low < 65536; low += 4111) {
                    seen[dueTurn(b, (int) before(before((w << 16) + low)))]++;
                }
            }
            // The same with z, the third one.
            for (int z : new int[] {0, 1, 2, 3, 4, 400, 403, 404, 407, 32764, 32767}) {
                for (int low = 0; low < 65536; low += 4111) {
                    seen[dueTurn(b, (int) before(before(before((z << 16) + low))))]++;
                }
            }
            // Numerators that are a number times the square of what the denominator is a power of.
            for (int a = 0; a <= 100; a += 20) {
                for (int c = 1; c <= 3; c++) {
                    for (int power = 1; power <= 3; power++) {
                        seen[dueTurn(b, startOfSquare(a, c, power))]++;
                    }
                }
            }
            Bench.due("turns without a common divisor", seen[0] > 0, true);
            Bench.due("turns with a common divisor", seen[1] > 0, true);
            Bench.due("turns with a common divisor of degree 2", seen[2] > 0, true);
            Bench.due("turns with the numerator 0", seen[4] > 0, true);
        });
        Bench.sentence("Each turn is a change.", b -> {
            for (int n = 1; n <= 8; n++) {
                b.renew();
                b.x.drift(n);
                Bench.due(b.x.count(5), Math.min(n, 6));
            }
            int turns = 9;
            for (int back = 1; back <= 6; back++) {
                Bench one = new Bench();
                one.x.drift(turns - back);
                Bench other = new Bench();
                other.x.drift(turns);
                for (int k = 0; k < back; k++) {
                    other.x.undo();
                }
                Bench.due(other.x.seed(0), one.x.seed(0));
                for (int f = 0; f <= 2; f++) {
                    for (int i = -2; i <= 2; i++) {
                        Bench.due("term " + i + " of " + f, other.text(f, i), one.text(f, i));
                    }
                }
            }
        });
        Bench.sentence("Returns the set of the functions that fit the tower then (bit f for function f)", b -> {
            int sets = 0;
            for (int start = 0; start < 300; start++) {
                b.renew();
                b.x.seed(start);
                if (start % 3 > 0) {
                    b.x.tower(start % 3, 0, 1, 0, 0);
                }
                int set = b.x.drift(1 + start % 4);
                Bench.due(set, b.x.told(0, 3) | b.x.told(1, 3) << 1 | b.x.told(2, 3) << 2);
                sets |= 1 << set;
            }
            Bench.due("sets that were seen", sets, 0xff);
        });
    }

    // ---- promise 13, and which calls are changes

    private static void undo() {
        Bench.sentence("Changes are the calls of read(), tower(), join(), derive() and lay() that return no error", b -> {
            b.x.sheet(0, 0, 12);
            b.x.item(0, 0, 7, 1);
            Bench.due(b.x.count(5), 0);
            b.set(0, 0, "x");
            Bench.due(b.x.count(5), 1);
            b.x.tower(1, 0, 1, 0, 0);
            Bench.due(b.x.count(5), 2);
            b.x.join(0, 0, 0, 0);
            Bench.due(b.x.count(5), 3);
            b.x.derive(0, 0);
            Bench.due(b.x.count(5), 4);
            b.x.lay(0, 0, 0, 0, 0);
            Bench.due(b.x.count(5), 5);
            // What sets nothing anew is a change too.
            b.x.lay(0, 0, 0, 0, 0);
            Bench.due(b.x.count(5), 6);
            Bench.due(b.x.undo(), 5);
            Bench.due(b.x.undo(), 4);
            b.dueText(0, 0, "2");
            Bench.due(b.x.undo(), 3);
            b.dueText(0, 0, "2*x");
            Bench.due(b.x.undo(), 2);
            b.dueText(0, 0, "x");
            Bench.due(b.x.undo(), 1);
            Bench.due(b.x.count(0), 0);
            Bench.due(b.x.undo(), 0);
            b.dueText(0, 0, "0");
        });
        Bench.sentence("a call that sets all as it was is a change, too", b -> {
            Bench.due(b.x.join(0, 0, 0, 0), 0);
            Bench.due(b.x.count(5), 1);
            Bench.due(b.x.derive(0, 0), 0);
            Bench.due(b.x.count(5), 2);
            b.set(0, 0, "0");
            Bench.due(b.x.count(5), 3);
            b.set(1, 0, "x");
            b.set(1, 0, "x");
            Bench.due(b.x.count(5), 5);
            Bench.due(b.x.join(1, 0, 1, 0), 4);
            Bench.due(b.x.count(5), 6);
            Bench.due(b.x.undo(), 5);
            Bench.due(b.x.undo(), 4);
            b.dueText(1, 0, "x");
            Bench.due(b.x.undo(), 3);
            b.dueText(1, 0, "0");
        });
        Bench.sentence("all other calls are no changes", b -> {
            b.set(0, 0, "1/x");
            b.x.sheet(0, 0, 24);
            b.x.item(0, 0, 3, 1);
            b.x.film(0, 0, 0, 0, 0);
            b.x.copy(0, 0, 0, 1, 3);
            b.x.seen(0, 0, 0, 1);
            b.x.drop(0);
            b.x.image();
            b.x.restore();
            b.x.seed(4);
            b.x.type('x');
            b.x.coef(0, 0, 0, 0);
            b.x.letter(0, 0, 0);
            b.x.value(0, 0, 0);
            b.x.told(0, 0);
            b.x.part(0, 0, 1, 0);
            b.x.split(0, 0, 0, 0);
            b.x.asked(0, 3);
            b.x.integral(0, 0, 0, 0);
            b.x.left(0, 0, 0, 0);
            b.x.residue(0, 0);
            b.x.log(0, 0, 1, 0);
            b.x.pencil(0, 0, 0);
            Bench.due(b.x.count(5), 1);
            Bench.due(b.x.undo(), 0);
            b.dueText(0, 0, "0");
            Bench.due(b.x.seed(0), 1);
        });
        Bench.sentence("The state before each of the latest 6 changes is kept for undo()", b -> {
            for (int changes = 1; changes <= 14; changes++) {
                b.renew();
                for (int k = 1; k <= changes; k++) {
                    b.set(0, 0, "" + k);
                }
                int kept = Math.min(changes, 6);
                Bench.due(b.x.count(5), kept);
                for (int k = 1; k <= kept; k++) {
                    Bench.due(b.x.undo(), kept - k);
                    b.dueText(0, 0, "" + (changes - k));
                }
                Bench.due(b.x.undo(), NONE);
                b.dueText(0, 0, "" + (changes - kept));
            }
            // Undone changes make room again, all round the places where states are kept.
            for (int undone = 1; undone <= 6; undone++) {
                b.renew();
                for (int k = 1; k <= 8; k++) {
                    b.set(0, 0, "" + k);
                }
                for (int k = 0; k < undone; k++) {
                    b.x.undo();
                }
                int at = 8 - undone;
                for (int more = 1; more <= 4; more++) {
                    b.set(0, 0, "" + (at + 20 * more));
                }
                int kept = Math.min(6 - undone + 4, 6);
                Bench.due(b.x.count(5), kept);
                for (int k = 1; k <= kept; k++) {
                    Bench.due(b.x.undo(), kept - k);
                    b.dueText(0, 0, "" + (k < 4 ? at + 20 * (4 - k) : at - (k - 4)));
                }
                Bench.due(b.x.undo(), NONE);
            }
        });
        Bench.sentence("it consists of the functions, the tower, and the random number", b -> {
            b.x.seed(5);
            b.set(2, -2, "1/x");
            b.x.tower(2, 1, 2, 3, 4);
            b.x.tower(1, 4, 3, 2, 1);
            b.x.drift(1);
            b.x.seed(77);
            Bench.due(b.x.undo(), 3);
            Bench.due(b.x.seed(6), 5);
            Bench.due(b.x.undo(), 2);
            Bench.due(b.x.count(0), 2);
            for (int k = 1; k <= 4; k++) {
                Bench.due(b.x.count(k), k);
            }
            Bench.due(b.x.undo(), 1);
            for (int k = 0; k <= 4; k++) {
                Bench.due(b.x.count(k), 0);
            }
            b.dueText(2, -2, "(1)/(x)");
            Bench.due(b.x.undo(), 0);
            b.dueText(2, -2, "0");
            Bench.due(b.x.seed(6), 5);
        });
        Bench.sentence("undo: the tape and the sheets stay", b -> {
            b.set(0, 0, "x");
            b.x.sheet(1, 2, 5);
            b.fill(1, 2, 4, 88);
            b.type("x+1");
            Bench.due(b.x.undo(), 0);
            Bench.due(b.x.type('5'), 4);
            b.dueElements(1, 2, 0, 0, 0, 0, 88);
            Bench.due(b.x.drop(1), 5);
        });
        Bench.sentence("Restores the state before the latest change that can be undone, whatever was set since by seed().", b -> {
            b.x.seed(10);
            b.set(0, 0, "x");
            b.x.seed(20);
            b.set(0, 0, "x+1");
            b.x.seed(30);
            Bench.due(b.x.undo(), 1);
            Bench.due(b.x.seed(40), 20);
            Bench.due(b.x.undo(), 0);
            Bench.due(b.x.seed(50), 10);
            Bench.due(b.x.undo(), NONE);
            Bench.due(b.x.seed(60), 50);
        });
        Bench.sentence("NONE if there is none", b -> {
            Bench.dueRefusal(c -> c.x.seed(3), x -> x.undo(), NONE);
            Bench.dueRefusal(c -> {
                c.x.drift(8);
                for (int k = 0; k < 6; k++) {
                    c.x.undo();
                }
                c.x.seed(3);
                c.type("x");
            }, x -> x.undo(), NONE);
            b.set(0, 0, "x");
            Bench.due(b.x.undo(), 0);
            Bench.due(b.x.undo(), NONE);
            b.set(0, 0, "x");
            Bench.due(b.x.count(5), 1);
            Bench.due(b.x.undo(), 0);
        });
    }

    // ---- promise 14

    private static void seed() {
        Bench.sentence("seed: v: the new number, 0 or more; BAD if v is negative", b -> {
            Bench.dueRange(v -> b.x.seed(v), 0, MAX);
            Bench.due(b.x.seed(0), MAX);
            Bench.due(b.x.seed(-1), BAD);
            Bench.due(b.x.seed(MIN), BAD);
            Bench.due(b.x.seed(MAX), 0);
            Bench.due(b.x.seed(-1), BAD);
            Bench.due(b.x.seed(7), MAX);
        });
        Bench.sentence("Sets the random number. This is no change.", b -> {
            for (int k = 0; k < 9; k++) {
                b.x.seed(k);
            }
            Bench.due(b.x.count(5), 0);
            b.x.drift(1);
            Bench.due(b.x.seed(1), (int) afterThree(8));
            Bench.due(b.x.count(5), 1);
        });
    }

    private static long afterThree(long start) {
        long[] random = {start};
        draw(random);
        draw(random);
        draw(random);
        return random[0];
    }

    // ---- promises 23 and 24

    private static void images() {
        Bench.sentence("restore: NONE if nothing was saved", b -> {
            Bench.dueRefusal(c -> {
                c.x.drift(3);
                c.type("x");
                c.x.seed(9);
            }, x -> x.restore(), NONE);
            Bench.due(b.x.image(), 1);
            Bench.due(b.x.restore(), 1);
        });
        Bench.sentence("Saves everything but the sheets and the tape, also what can be undone", b -> {
            Bench.Scene before = c -> {
                c.x.sheet(2, 0, 3);
                c.x.seed(3);
                c.x.drift(9);
                c.x.tower(2, 4, 3, 2, 1);
                c.set(1, 1, "x^6");
                c.x.seed(44);
                c.x.image();
                c.type("x+1");
                c.x.item(2, 0, 1, 50);
            };
            // Whatever changed, as much as there is room for, the same is there again.
            Bench.dueSame(before, c -> {
                before.play(c);
                c.x.restore();
            });
            Bench.dueSame(before, c -> {
                c.x.sheet(2, 0, 3);
                c.x.seed(3);
                c.x.drift(9);
                c.x.tower(2, 4, 3, 2, 1);
                c.set(1, 1, "x^6");
                c.x.seed(44);
                c.x.image();
                c.x.tower(0, 0, 0, 0, 0);
                c.x.drift(10);
                for (int k = 0; k < 4; k++) {
                    c.x.undo();
                }
                c.x.drift(1);
                c.x.seed(12);
                c.x.restore();
                c.type("x+1");
                c.x.item(2, 0, 1, 50);
            });
        });
        Bench.sentence("image: in place of what was saved before", b -> {
            b.set(0, 0, "1");
            b.x.image();
            b.set(0, 0, "2");
            b.x.seed(20);
            Bench.due(b.x.image(), 1);
            b.set(0, 0, "3");
            Bench.due(b.x.restore(), 1);
            b.dueText(0, 0, "2");
            Bench.due(b.x.seed(0), 20);
            Bench.due(b.x.count(5), 2);
            Bench.due(b.x.undo(), 1);
            Bench.due(b.x.image(), 1);
            b.x.undo();
            Bench.due(b.x.restore(), 1);
            b.dueText(0, 0, "1");
            Bench.due(b.x.count(5), 1);
        });
        Bench.sentence("Restores what was saved; it stays saved.", b -> {
            b.set(0, 0, "x");
            b.x.image();
            for (int k = 0; k < 3; k++) {
                b.x.drift(7);
                Bench.due(b.x.restore(), 1);
                b.dueText(0, 0, "x");
                Bench.due(b.x.count(5), 1);
                Bench.due(b.x.told(1, 0) | b.x.told(2, 0), 0);
                Bench.due(b.x.undo(), 0);
                Bench.due(b.x.told(0, 0), 0);
                Bench.due(b.x.undo(), NONE);
            }
        });
        Bench.sentence("restore: the tape and the sheets stay", b -> {
            b.x.sheet(0, 1, 4);
            b.type("x");
            b.x.image();
            b.x.sheet(1, 3, 2);
            b.fill(1, 3, 1, 77);
            b.fill(0, 1, 3, 66);
            b.type("+1");
            Bench.due(b.x.restore(), 1);
            Bench.due(b.x.type('2'), 4);
            Bench.due(b.x.read(2, 0), 4);
            b.dueText(2, 0, "x+12");
            b.dueElements(1, 3, 0, 77);
            b.dueElements(0, 1, 0, 0, 0, 66);
        });
        Bench.sentence("what can be undone is saved whole: an empty one and a full one", b -> {
            b.x.image();
            b.x.drift(6);
            Bench.due(b.x.restore(), 1);
            Bench.due(b.x.undo(), NONE);
            for (int k = 1; k <= 9; k++) {
                b.set(0, 0, "" + k);
            }
            b.x.image();
            for (int k = 0; k < 5; k++) {
                b.x.undo();
            }
            b.x.drift(3);
            b.x.restore();
            for (int k = 5; k >= 0; k--) {
                Bench.due(b.x.undo(), k);
                b.dueText(0, 0, "" + (k + 3));
            }
            Bench.due(b.x.undo(), NONE);
        });
    }
}
