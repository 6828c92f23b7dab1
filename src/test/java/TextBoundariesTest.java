/** The boundary cases of the tape, of its texts and their values, and of the promises 7 and 8. */
public final class TextBoundariesTest {
    private static final int BAD = Bench.BAD, NOT = Bench.NOT, FULL = Bench.FULL, MIN = Bench.MIN, MAX = Bench.MAX;
    private static final String ATOMS = "0123456789x(";
    private static final String OPERATIONS = "+-*/";

    public static void main(String[] args) {
        tape();
        grammar();
        faults();
        values();
        limits();
        writtenTexts();
        read();
        Bench.finish();
    }

    /** A new object finds this fault. */
    private static void dueFault(Bench b, String text, int fault) {
        b.dueError(text, -20 - fault);
    }

    // ---- the tape and promise 7

    private static void tape() {
        Bench.sentence("type: its code, 32 to 126", b -> {
            Bench.dueRange(letter -> b.x.type(letter), 32, 126);
            Bench.due(b.x.type(31), BAD);
            Bench.due(b.x.type(127), BAD);
            Bench.due(b.x.type('x'), 3);
        });
        Bench.sentence("There is a tape of at most 90 characters", b -> {
            for (int k = 1; k <= 90; k++) {
                Bench.due(b.x.type(k == 90 ? 'x' : ' '), k);
            }
            // The 90th character counts.
            Bench.due(b.x.read(0, 0), 1);
            b.dueText(0, 0, "x");
            b.renew();
            b.type("1+".repeat(44) + "1/");
            Bench.due(b.x.read(0, 0), -110);
            b.type("1+".repeat(44) + "1 ");
            Bench.due(b.x.read(0, 0), 2);
            b.dueText(0, 0, "45");
        });
        Bench.sentence("FULL if the tape has 90 characters", b -> {
            b.type(" ".repeat(89));
            Bench.due(b.x.type('5'), 90);
            Bench.due(b.x.type('6'), FULL);
            Bench.due(b.x.type(' '), FULL);
            Bench.due(b.x.type(31), BAD);
            Bench.due(b.x.type(127), BAD);
            Bench.due(b.x.read(0, 0), 1);
            b.dueText(0, 0, "5");
        });
        Bench.sentence("Returns the length of the tape afterwards", b -> {
            Bench.due(b.x.type(' '), 1);
            Bench.due(b.x.type('x'), 2);
            Bench.due(b.x.type(MIN), BAD);
            Bench.due(b.x.type('+'), 3);
            Bench.due(b.x.read(0, 0), -23);
            Bench.due(b.x.type('x'), 1);
        });
    }

    // ---- the grammar

    private static void grammar() {
        Bench.sentence("braces mean any number of times, and brackets at most once", b -> {
            b.dueRead("x", "x");
            b.dueRead("1+2-3+4-5+6", "5");
            b.dueRead("6*5/3*2/4*7", "35");
            b.dueRead("x^2", "x^2");
            dueFault(b, "x^2^2", 3);
            dueFault(b, "(x^2)^2^2", 7);
            b.dueRead("(x^2)^2", "x^4");
            b.dueRead("1*".repeat(44) + "x", "x");
        });
        Bench.sentence("A figure is a digit from 0 to 8.", b -> {
            b.dueRead("x^0", "1");
            b.dueRead("x^1", "x");
            b.dueRead("2^7", "27");
            b.dueRead("2^8", "54");
            dueFault(b, "2^9", 2);
            dueFault(b, "2^9?", 2);
            dueFault(b, "2^10", 3);
            dueFault(b, "2^x", 2);
            dueFault(b, "2^(2)", 2);
        });
        Bench.sentence("A number has one to three digits and is taken modulo 101.", b -> {
            b.dueRead("0", "0");
            b.dueRead("9", "9");
            b.dueRead("99", "99");
            b.dueRead("100", "100");
            b.dueRead("101", "0");
            b.dueRead("102", "1");
            b.dueRead("201", "100");
            b.dueRead("202", "0");
            b.dueRead("999", "90");
            b.dueRead("000", "0");
            b.dueRead("001", "1");
            dueFault(b, "0000", 3);
            dueFault(b, "1000", 3);
            dueFault(b, "99999", 3);
            dueFault(b, "x+1000", 5);
            b.dueRead("999+999", "79");
            dueFault(b, "999+9999", 7);
        });
        Bench.sentence("At most 6 parentheses can be open at the same time.", b -> {
            b.dueRead("((((((x))))))", "x");
            dueFault(b, "(((((((x)))))))", 6);
            b.dueRead("((((((x))))))+((((((x))))))", "2*x");
            b.dueRead("(((((( x )+( x )*( x ))))))", "x^2+x");
            dueFault(b, "((((((x)*((", 10);
            dueFault(b, "((((((x))))))*(((((((x", 20);
            b.dueRead("(x)*(x)*(x)-(x)-(x)-(x)-(x)-(x)", "x^3+96*x");
            // All that can wait for an operand at once.
            b.dueRead("1-2*(1-2*(1-2*(1-2*(1-2*(1-2*(1-2*x))))))", "74*x+43");
            b.dueRead("1-2*(1-2*(1-2*(1-2*(1-2*(1-2*(1-2*x^2))))))", "74*x^2+43");
        });
        Bench.sentence("Blanks have no meaning, but end a number.", b -> {
            b.dueRead("  ( x + 12 ) ^ 2 * 3 / 4 - 5  ", "26*x^2+18*x+2");
            b.dueRead("12 ", "12");
            b.dueRead(" 12", "12");
            b.dueRead("12 ^2", "43");
            dueFault(b, "1 2", 2);
            dueFault(b, "12 3", 3);
            dueFault(b, "123 4", 4);
            dueFault(b, "1  2", 3);
            dueFault(b, "x^2 3", 4);
            dueFault(b, "x x", 2);
            b.dueRead("x^ 2", "x^2");
        });
    }

    // ---- faults

    /** Behind this beginning just these characters can stand, and blanks. */
    private static void dueNext(Bench b, String beginning, String allowed) {
        int at = beginning.length();
        for (char c = 33; c <= 126; c++) {
            b.renew();
            int answer = b.read(0, 0, beginning + c);
            boolean refused = answer == -20 - at;
            Bench.due("refusal of '" + c + "' behind '" + beginning + "'", refused, allowed.indexOf(c) < 0);
        }
        b.renew();
        int blank = b.read(0, 0, beginning + " ");
        Bench.due("a blank behind '" + beginning + "' as the fault", blank == -20 - at, false);
        dueFault(b, beginning + " ?", at + 1);
    }

    private static void faults() {
        Bench.sentence("the position on the tape, from 0, of the first character that cannot stand there", b -> {
            dueNext(b, "", ATOMS);
            dueNext(b, "(", ATOMS);
            dueNext(b, "((((((", "0123456789x");
            dueNext(b, "x", OPERATIONS + "^");
            dueNext(b, "(x", OPERATIONS + "^)");
            dueNext(b, "(x)", OPERATIONS + "^");
            dueNext(b, "((x)", OPERATIONS + "^)");
            dueNext(b, "1", OPERATIONS + "^0123456789");
            dueNext(b, "12", OPERATIONS + "^0123456789");
            dueNext(b, "123", OPERATIONS + "^");
            dueNext(b, "1 ", OPERATIONS + "^");
            dueNext(b, "(123", OPERATIONS + "^)");
            dueNext(b, "x^", "012345678");
            dueNext(b, "x^ ", "012345678");
            dueNext(b, "x^2", OPERATIONS);
            dueNext(b, "(x^2", OPERATIONS + ")");
            dueNext(b, "(x)^2", OPERATIONS);
            dueNext(b, "12^2", OPERATIONS);
            for (char operation : OPERATIONS.toCharArray()) {
                dueNext(b, "x" + operation, ATOMS);
                dueNext(b, "(x" + operation, ATOMS);
                dueNext(b, "3" + operation, ATOMS);
                dueNext(b, "x^0" + operation, ATOMS);
            }
        });
        Bench.sentence("also of a fourth digit of a number, and of a seventh open parenthesis", b -> {
            dueFault(b, "1234", 3);
            dueFault(b, " 1234", 4);
            dueFault(b, "(((((((", 6);
            dueFault(b, " ( ( ( ( ( ( (", 13);
        });
        Bench.sentence("blanks count as positions, but a blank itself is never the fault", b -> {
            dueFault(b, " ?", 1);
            dueFault(b, "     ?", 5);
            dueFault(b, "x  x", 3);
            dueFault(b, "x ^ ^", 4);
            dueFault(b, "( )", 2);
            dueFault(b, " ".repeat(89) + "?", 89);
            dueFault(b, "x" + " ".repeat(88) + "x", 89);
        });
        Bench.sentence("If the text ends too early, it is the number of characters on the tape, blanks included.", b -> {
            dueFault(b, "", 0);
            dueFault(b, " ", 1);
            dueFault(b, " ".repeat(90), 90);
            dueFault(b, "(", 1);
            dueFault(b, "( ", 2);
            dueFault(b, "(x", 2);
            dueFault(b, "((x)", 4);
            dueFault(b, "((((((x)))))", 12);
            dueFault(b, "(x^2  ", 6);
            dueFault(b, "(1 ", 3);
            dueFault(b, "x^", 2);
            dueFault(b, "x^  ", 4);
            for (char operation : OPERATIONS.toCharArray()) {
                dueFault(b, "x" + operation, 2);
                dueFault(b, "x" + operation + "  ", 4);
            }
        });
        Bench.sentence("A text without a fault is evaluated: a fault counts before all errors of the evaluation", b -> {
            dueFault(b, "1/0+", 4);
            dueFault(b, "x^7+1/0?", 7);
            dueFault(b, "x^8)", 3);
        });
    }

    // ---- values

    private static void values() {
        Bench.sentence("both operands of an operation are evaluated before it, the left one first", b -> {
            b.dueError("x^7+1/0", FULL);
            b.dueError("1/0+x^7", NOT);
            b.dueError("x^7/0", FULL);
            b.dueError("x^7*0", FULL);
            b.dueError("0*x^7", FULL);
            b.dueError("0*(1/0)", NOT);
            b.dueError("0/0*x^7", NOT);
            b.dueError("(1/0)/(x^7)", NOT);
            b.dueError("(x^7)/(1/0)", FULL);
            b.dueError("x^6*x+1/0", FULL);
            // The product behind the sign comes before the sum.
            b.dueRead("x^6+1/x*0", "x^6");
            b.dueError("x^6+1/x+1/0", FULL);
            b.dueError("x^6+1/x*(1/0)", NOT);
        });
        Bench.sentence("equal operations are grouped from the left", b -> {
            b.dueRead("9-3-2", "4");
            b.dueRead("9-3+2", "8");
            b.dueRead("9+3-2", "10");
            b.dueRead("24/4/2", "3");
            b.dueRead("24/4*2", "12");
            b.dueRead("24*4/2", "48");
            b.dueRead("1-1*0-1", "0");
            b.dueRead("2+3*4^2-5", "45");
            b.dueRead("x^6/x*x", "x^6");
            b.dueError("x*x^6/x", FULL);
            b.dueRead("x/x^4/(1/x)", "(1)/(x^2)");
        });
        Bench.sentence("A power begins with 1, which is multiplied by the atom as often as the figure says, step by step.", b -> {
            b.dueRead("0^0", "1");
            b.dueRead("0^1", "0");
            b.dueRead("0^8", "0");
            b.dueRead("(x^6)^0", "1");
            b.dueRead("(x^6)^1", "x^6");
            b.dueError("(x^6)^2", FULL);
            b.dueRead("100^7", "100");
            b.dueRead("100^8", "1");
            b.dueError("(1/0)^0", NOT);
            b.dueError("(x^7)^0", FULL);
            b.dueRead("(x/(x+1))^4", "(x^4)/(x^4+4*x^3+6*x^2+4*x+1)");
            b.dueError("(x/(x+1))^5", FULL);
            b.dueError("x^8/x^8", FULL);
            b.dueRead("2*x^2", "2*x^2");
            b.dueRead("1/x^2", "(1)/(x^2)");
            b.dueRead("1-x^2", "100*x^2+1");
        });
        Bench.sentence("nothing may be divided by 0 (else NOT)", b -> {
            b.dueError("1/0", NOT);
            b.dueError("0/0", NOT);
            b.dueError("x/101", NOT);
            b.dueError("x/(x-x)", NOT);
            b.dueError("x/(1/x-1/x)", NOT);
            b.dueError("x/0^1", NOT);
            b.dueRead("x/0^0", "x");
            b.dueRead("0/1", "0");
            b.dueRead("0/x", "0");
            b.dueRead("x/100", "100*x");
        });
        Bench.sentence("the first of these errors counts", b -> {
            b.dueError("1/0+x^7", NOT);
            b.dueError("x^7+1/0", FULL);
            b.dueError("(x^6*x)/0", FULL);
            b.dueError("x^6*(x/0)", NOT);
            b.dueError("(1/x)^5/0", FULL);
            b.dueError("((1/0)/x)^5", NOT);
        });
    }

    // ---- the limits of each result

    private static void limits() {
        Bench.sentence("The result of each + must satisfy the limits for terms (else FULL)", b -> {
            b.dueRead("x^5+1/x", "(x^6+1)/(x)");
            b.dueError("x^6+1/x", FULL);
            b.dueRead("1/x^2+1/(x+1)^2", "(2*x^2+2*x+1)/(x^4+2*x^3+x^2)");
            b.dueError("1/x^3+1/(x+1)^2", FULL);
            b.dueError("x^6+1/x-1/x", FULL);
            b.dueRead("x^6/(x+1)^4+1/(x+1)^4", "(x^6+1)/(x^4+4*x^3+6*x^2+4*x+1)");
        });
        Bench.sentence("The result of each - must satisfy the limits for terms (else FULL)", b -> {
            b.dueRead("x^5-1/x", "(x^6+100)/(x)");
            b.dueError("x^6-1/x", FULL);
            b.dueError("1/x^3-1/(x+1)^2", FULL);
            b.dueError("x^6-1/x+1/x", FULL);
            b.dueRead("1/x^4-1/x^4", "0");
        });
        Bench.sentence("The result of each * must satisfy the limits for terms (else FULL)", b -> {
            b.dueRead("x^4*x^2", "x^6");
            b.dueError("x^4*x^3", FULL);
            b.dueRead("(1/x^2)*(1/x^2)", "(1)/(x^4)");
            b.dueError("(1/x^2)*(1/x^3)", FULL);
            b.dueError("x^6*x/x", FULL);
            b.dueRead("x^6*(1/x)*x", "x^6");
            b.dueRead("x^6*0", "0");
            // Products are reduced before the limits count.
            b.dueRead("x^6*((x+1)/x)", "x^6+x^5");
            b.dueRead("(1/x^4)*(x/(x+1))", "(1)/(x^4+x^3)");
        });
        Bench.sentence("The result of each / must satisfy the limits for terms (else FULL)", b -> {
            b.dueRead("1/x^3/x", "(1)/(x^4)");
            b.dueError("1/x^4/x", FULL);
            b.dueRead("x^3/(1/x^3)", "x^6");
            b.dueError("x^4/(1/x^3)", FULL);
            b.dueError("1/x^5", FULL);
            b.dueError("1/(x^6+1)", FULL);
            b.dueError("1/x^4/x*x", FULL);
            b.dueRead("x^6/x^6", "1");
            b.dueRead("x^2/x^6", "(1)/(x^4)");
            b.dueError("x/x^6", FULL);
            b.dueRead("x^6/(x/(x+1))", "x^6+x^5");
            b.dueRead("x/(x+1)^4/x", "(1)/(x^4+4*x^3+6*x^2+4*x+1)");
        });
        Bench.sentence("The result of each step of a power must satisfy the limits for terms (else FULL)", b -> {
            b.dueRead("(x^2)^3", "x^6");
            b.dueError("(x^2)^4", FULL);
            b.dueRead("(x^3)^2", "x^6");
            b.dueError("(x^3)^3", FULL);
            b.dueRead("(1/x)^4", "(1)/(x^4)");
            b.dueError("(1/x)^5", FULL);
            b.dueRead("(1/(x^2+2))^2", "(1)/(x^4+4*x^2+4)");
            b.dueError("(1/(x^2+2))^3", FULL);
            b.dueError("x^7", FULL);
            b.dueError("x^8", FULL);
            b.dueRead("x^6", "x^6");
        });
    }

    // ---- texts of terms

    private static void writtenTexts() {
        Bench.sentence("The text of a polynomial consists of its terms with coefficients other than 0, from the greatest power down", b -> {
            b.dueRead("1+x^6", "x^6+1");
            b.dueRead("x+x^3+x^5", "x^5+x^3+x");
            b.dueRead("7*x^6+6*x^5+5*x^4+4*x^3+3*x^2+2*x+1", "7*x^6+6*x^5+5*x^4+4*x^3+3*x^2+2*x+1");
        });
        Bench.sentence("c*x^k, for the power 1 c*x, and for the power 0 c, where c* is left out if c is 1 and k is not 0", b -> {
            String[] same = {
                "1", "2", "9", "10", "11", "99", "100", "x", "2*x", "100*x", "x^2", "2*x^2", "10*x^2", "100*x^6", "x^6", "x+1", "x^2+x+1",
                "11*x+11", "x^6+x^5+x^4+x^3+x^2+x+1",
            };
            for (String text : same) {
                b.dueRead(text, text);
            }
        });
        Bench.sentence("The text of the polynomial 0 is 0.", b -> {
            b.dueRead("0", "0");
            b.dueRead("x-x", "0");
            Bench.due(b.x.letter(1, 1, 0), '0');
            Bench.due(b.x.letter(1, 1, 1), Bench.NONE);
        });
        Bench.sentence("that of its numerator if the denominator is 1, and otherwise (numerator)/(denominator)", b -> {
            b.dueRead("(x+1)/1", "x+1");
            b.dueRead("(x+1)/5", "81*x+81");
            b.dueRead("1/x", "(1)/(x)");
            b.dueRead("(x+1)/(x^4+2)", "(x+1)/(x^4+2)");
        });
    }

    // ---- promise 8

    private static void busy(Bench b) {
        b.set(0, 0, "x^2");
        b.set(1, -2, "1/x");
        b.x.tower(1, 0, 2, 0, 0);
        b.x.drift(2);
        b.x.image();
        b.set(2, 2, "7");
        b.x.seed(9);
        b.x.sheet(1, 1, 3);
    }

    private static void read() {
        Bench.sentence("read: f: the function, 0 to 2", b -> Bench.dueRange(f -> b.x.read(f, 0), 0, 2));
        Bench.sentence("read: i: the term, -2 to 2", b -> Bench.dueRange(i -> b.x.read(0, i), -2, 2));
        Bench.sentence("BAD if an argument is out of range (then the tape stays)", b -> {
            Bench.Scene typed = c -> {
                busy(c);
                c.type("x+8 ");
            };
            int[][] bad = {{-1, 0}, {3, 0}, {0, -3}, {0, 3}, {MIN, MIN}, {MAX, MAX}};
            for (int[] v : bad) {
                Bench.dueRefusal(typed, x -> x.read(v[0], v[1]), BAD);
            }
            typed.play(b);
            b.x.read(3, 0);
            Bench.due(b.x.type('7'), 5);
            Bench.due(b.x.read(0, 0), -24);
            // BAD also counts before a fault, and before the errors of the evaluation.
            for (String text : new String[] {"?", "1/0", "x^7", ""}) {
                Bench.dueRefusal(c -> c.type(text), x -> x.read(0, 3), BAD);
            }
        });
        Bench.sentence("The tape is empty then, also after an error other than BAD.", b -> {
            for (String text : new String[] {"x", "x+", "?", "1/0", "x^7", " ".repeat(90), "(x", "((((((", "1+2*(3-?", "(1/0)", "123", "x^"}) {
                b.renew();
                b.read(0, 0, text);
                Bench.due(b.x.type('7'), 1);
                Bench.due(b.x.read(1, 1), 1);
                b.dueText(1, 1, "7");
            }
        });
        Bench.sentence("A call that returns an error changes nothing, except that read() empties the tape.", b -> {
            String[] texts = {"x+", "?", "1/0", "x^7", "x^6*x/x", "(((((((", " "};
            int[] errors = {-22, -20, NOT, FULL, FULL, -26, -21};
            for (int k = 0; k < texts.length; k++) {
                String text = texts[k];
                b.renew();
                busy(b);
                Bench.due("answer to '" + text + "'", b.read(0, 0, text), errors[k]);
                Bench.dueSame(TextBoundariesTest::busy, c -> {
                    busy(c);
                    c.read(0, 0, text);
                });
            }
        });
        Bench.sentence("Sets a term to the fraction that the tape describes. This is a change.", b -> {
            for (int f = 0; f <= 2; f++) {
                for (int i = -2; i <= 2; i++) {
                    b.renew();
                    b.set(f, i, "x^3/(x+1)");
                    b.dueText(f, i, "(x^3)/(x+1)");
                    Bench.due(b.x.told(f, 0), 1 << i + 2);
                    Bench.due(b.x.told((f + 1) % 3, 0) + b.x.told((f + 2) % 3, 0), 0);
                    Bench.due(b.x.count(5), 1);
                    // It is one too if the term was so already.
                    b.set(f, i, "x^3/(x+1)");
                    Bench.due(b.x.count(5), 2);
                    Bench.due(b.x.undo(), 1);
                    b.dueText(f, i, "(x^3)/(x+1)");
                    Bench.due(b.x.undo(), 0);
                    b.dueText(f, i, "0");
                }
            }
        });
        Bench.sentence("Returns the length of the text of the term", b -> {
            Bench.due(b.read(0, 0, "x-x"), 1);
            Bench.due(b.read(0, 0, "99+1"), 3);
            Bench.due(b.read(0, 0, "1/x"), 7);
            String longest = "(100*x^6+100*x^5+100*x^4+100*x^3+100*x^2+100*x+100)/(x^4+100*x^3+100*x^2+100*x+100)";
            Bench.due(longest.length(), 83);
            Bench.due(b.read(0, 0, longest), 83);
            b.dueText(0, 0, longest);
            Bench.due(b.read(0, 0, "x"), 1);
        });
        Bench.sentence("-20 minus the fault if the text has one", b -> {
            Bench.due(b.read(0, 0, "?"), -20);
            Bench.due(b.read(0, 0, "x?"), -21);
            Bench.due(b.read(0, 0, " ".repeat(89) + "?"), -109);
            Bench.due(b.read(0, 0, " ".repeat(90)), -110);
        });
    }
}
