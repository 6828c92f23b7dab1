/** The boundary cases of sheets, and of the promises 25 to 31. */
public final class SheetBoundariesTest {
    private static final int BAD = Bench.BAD, NOT = Bench.NOT, NULL = Bench.NULL, CAST = Bench.CAST;
    private static final int INDEX = Bench.INDEX, SIZE = Bench.SIZE, MIN = Bench.MIN, MAX = Bench.MAX;
    private static final int ALL = 0x7fff;

    public static void main(String[] args) {
        seen();
        seenErrors();
        lay();
        film();
        sheet();
        drop();
        item();
        copy();
        Bench.finish();
    }

    private static int bit(int f, int i) {
        return 1 << 5 * f + i + 2;
    }

    // ---- promise 25

    private static void seen() {
        Bench.sentence("Returns the set of the terms (bit 5 * f + i + 2 for term i of function f)", b -> {
            b.x.sheet(0, 0, 2);
            Bench.due(b.x.seen(0, 0, 0, 1), ALL);
            int set = 0;
            for (int f = 0; f <= 2; f++) {
                for (int i = -2; i <= 2; i++) {
                    b.set(f, i, "9");
                    set |= bit(f, i);
                    b.x.item(0, 0, 1, 9);
                    Bench.due(b.x.seen(0, 0, 0, 1), set);
                    b.x.item(0, 0, 1, 0);
                    Bench.due(b.x.seen(0, 0, 0, 1), ALL & ~set);
                    b.x.item(0, 0, 1, 8);
                    Bench.due(b.x.seen(0, 0, 0, 1), 0);
                }
            }
        });
        Bench.sentence("a term is in the result if its value at x is y for all of them", b -> {
            b.set(0, 0, "x");
            b.set(1, 1, "x^2");
            b.set(2, 2, "(x^2+x)/2");
            b.x.sheet(0, 2, 6);
            b.fill(0, 2, 0, 0, 0, 1, 1, 2, 4);
            Bench.due(b.x.seen(0, 2, 0, 1), ALL);
            Bench.due(b.x.seen(0, 2, 0, 2), bit(0, 0) | bit(1, 1) | bit(2, 2));
            Bench.due(b.x.seen(0, 2, 0, 3), bit(1, 1));
            Bench.due(b.x.seen(0, 2, 4, 1), bit(1, 1));
            // The first, the middle or the last pair is enough to be out.
            b.fill(0, 2, 0, 2, 3, 1, 1, 0, 0);
            Bench.due(b.x.seen(0, 2, 0, 3), bit(2, 2));
            b.fill(0, 2, 0, 0, 0, 2, 3, 1, 1);
            Bench.due(b.x.seen(0, 2, 0, 3), bit(2, 2));
            // The pairs of x and y begin at i, be it even or odd.
            b.fill(0, 2, 0, 50, 5, 25, 6, 36, 50);
            Bench.due(b.x.seen(0, 2, 1, 2), bit(1, 1));
        });
        Bench.sentence("(at a zero of its denominator it has no value)", b -> {
            b.set(0, 0, "1/x");
            b.set(0, 1, "x/(x+1)");
            b.x.sheet(0, 1, 2);
            for (int y = 0; y <= 100; y++) {
                b.fill(0, 1, 0, 0, y);
                Bench.due(b.x.seen(0, 1, 0, 1), y == 0 ? ALL & ~bit(0, 0) : 0);
            }
            for (int y = 0; y <= 100; y++) {
                b.fill(0, 1, 0, 100, y);
                Bench.due(b.x.seen(0, 1, 0, 1), y == 0 ? ALL & ~bit(0, 0) & ~bit(0, 1) : y == 100 ? bit(0, 0) : 0);
            }
        });
        Bench.sentence("seen: n: the number of pairs, 1 to 8", b -> {
            b.x.sheet(0, 0, 24);
            Bench.dueRange(n -> b.x.seen(0, 0, 0, n), 1, 8);
            Bench.due(b.x.seen(0, 0, 0, 0), BAD);
            Bench.due(b.x.seen(0, 0, 0, 9), BAD);
            // All eight pairs count, and none behind them.
            b.set(0, 0, "x");
            Bench.due(b.x.seen(0, 0, 0, 8), ALL);
            b.fill(0, 0, 14, 1, 1);
            Bench.due(b.x.seen(0, 0, 0, 7), ALL);
            Bench.due(b.x.seen(0, 0, 0, 8), bit(0, 0));
            b.fill(0, 0, 16, 1, 2);
            Bench.due(b.x.seen(0, 0, 0, 8), bit(0, 0));
        });
    }

    private static void seenErrors() {
        Bench.sentence("seen: the sheet, 0 to 3", b -> {
            for (int s = 0; s <= 3; s++) {
                b.x.sheet(s, 0, 2);
            }
            Bench.dueRange(s -> b.x.seen(s, 0, 0, 1), 0, 3);
        });
        Bench.sentence("seen: the lane that it is expected to have, 0 to 3", b -> {
            b.x.sheet(0, 0, 2);
            Bench.dueRange(lane -> b.x.seen(0, lane, 0, 1), 0, 3);
        });
        Bench.sentence("seen: INDEX if not all these elements exist", b -> {
            for (int lane = 0; lane <= 3; lane++) {
                b.x.sheet(1, lane, 24);
                Bench.due(b.x.seen(1, lane, 22, 1), ALL);
                Bench.due(b.x.seen(1, lane, 23, 1), INDEX);
                Bench.due(b.x.seen(1, lane, 24, 1), INDEX);
                Bench.due(b.x.seen(1, lane, 8, 8), ALL);
                Bench.due(b.x.seen(1, lane, 9, 8), INDEX);
                Bench.due(b.x.seen(1, lane, 0, 8), ALL);
                Bench.due(b.x.seen(1, lane, -1, 1), INDEX);
                Bench.due(b.x.seen(1, lane, -2, 1), INDEX);
                Bench.due(b.x.seen(1, lane, MAX, 8), INDEX);
                Bench.due(b.x.seen(1, lane, MAX - 1, 1), INDEX);
                Bench.due(b.x.seen(1, lane, MIN, 8), INDEX);
                b.x.sheet(1, lane, 2);
                Bench.due(b.x.seen(1, lane, 0, 1), ALL);
                Bench.due(b.x.seen(1, lane, 0, 2), INDEX);
                b.x.sheet(1, lane, 1);
                Bench.due(b.x.seen(1, lane, 0, 1), INDEX);
                b.x.sheet(1, lane, 0);
                Bench.due(b.x.seen(1, lane, 0, 1), INDEX);
            }
        });
        Bench.sentence("seen: NOT if one of them is not 0 to 100", b -> {
            b.x.sheet(1, 3, 6);
            for (int k = 2; k <= 3; k++) {
                for (long v : new long[] {0, 1, 99, 100, 101, 102, -1, -100, 127, 1L << 32, (1L << 32) + 5, Long.MIN_VALUE, Long.MAX_VALUE}) {
                    b.fill(1, 3, k, v);
                    boolean number = v >= 0 && v <= 100;
                    Bench.due("element " + k + " " + v, b.x.seen(1, 3, 2, 1) == NOT, !number);
                    Bench.due("first of two pairs " + v, b.x.seen(1, 3, 2, 2) == NOT, !number);
                    Bench.due("second of two pairs " + v, b.x.seen(1, 3, 0, 2) == NOT, !number);
                    // Elements before and behind the pairs do not matter.
                    Bench.due(b.x.seen(1, 3, 0, 1), ALL);
                    Bench.due(b.x.seen(1, 3, 4, 1), ALL);
                }
                b.fill(1, 3, k, 0);
            }
        });
        Bench.sentence("seen: the errors in their order", b -> {
            b.x.sheet(1, 3, 2);
            b.fill(1, 3, 0, 101);
            Bench.due(b.x.seen(0, 0, 99, 9), BAD);
            Bench.due(b.x.seen(0, 4, 99, 1), BAD);
            Bench.due(b.x.seen(4, 0, 99, 1), BAD);
            Bench.due(b.x.seen(0, 0, 99, 1), NULL);
            Bench.due(b.x.seen(1, 0, 99, 1), CAST);
            Bench.due(b.x.seen(1, 3, 0, 2), INDEX);
            Bench.due(b.x.seen(1, 3, 0, 1), NOT);
        });
    }

    // ---- promise 26

    private static void lay() {
        Bench.sentence("lay: f: the function, 0 to 2", b -> {
            setFraction(b);
            Bench.dueRange(f -> b.x.lay(f, 0, 0, 0, 0), 0, 2);
        });
        Bench.sentence("lay: i: the term, -2 to 2", b -> {
            setFraction(b);
            Bench.dueRange(i -> b.x.lay(0, i, 0, 0, 0), -2, 2);
        });
        Bench.sentence("lay: sheet: the sheet, 0 to 3", b -> {
            setFraction(b);
            Bench.dueRange(s -> b.x.lay(0, 0, s, 0, 0), 0, 3);
        });
        Bench.sentence("lay: lane: the lane that it is expected to have, 0 to 3", b -> {
            setFraction(b);
            Bench.dueRange(lane -> b.x.lay(0, 0, 0, lane, 0), 0, 3);
        });
        Bench.sentence("the coefficients of x^0 to x^6 of its numerator, and then those of x^0 to x^4 of its denominator", b -> {
            for (int lane = 0; lane <= 3; lane++) {
                b.renew();
                b.x.sheet(2, lane, 24);
                b.fill(2, lane, 5, 1, 2, 3, 4, 5, 6, 7, 8, 9, 10, 11, 1);
                b.fill(2, lane, 17, 50);
                b.fill(2, lane, 4, 60);
                Bench.due(b.x.lay(1, -2, 2, lane, 5), 1);
                b.dueTerm(1, -2, Bench.row(1, 2, 3, 4, 5, 6, 7), Bench.row(8, 9, 10, 11, 1));
                Bench.due(b.x.told(1, 0), 1);
            }
        });
        Bench.sentence("lay: it is reduced. This is a change.", b -> {
            b.x.sheet(2, 0, 12);
            b.fill(2, 0, 0, 0, 0, 0, 0, 0, 0, 8, 0, 0, 0, 0, 2);
            Bench.due(b.x.lay(1, 1, 2, 0, 0), 1);
            b.dueText(1, 1, "4*x^2");
            Bench.due(b.x.count(5), 1);
            Bench.due(b.x.lay(1, 1, 2, 0, 0), 1);
            Bench.due(b.x.count(5), 2);
            b.fill(2, 0, 6, 0);
            Bench.due(b.x.lay(1, 1, 2, 0, 0), 1);
            b.dueTerm(1, 1, Bench.row(), Bench.row(1));
            Bench.due(b.x.undo(), 2);
            b.dueText(1, 1, "4*x^2");
            // Also behind a quotient that was refused because it has x^10.
            b.set(0, -1, "x^6");
            b.set(1, 1, "0");
            b.set(1, 2, "1/(x^4+2)");
            Bench.due(b.x.join(2, 3, 0, 1), Bench.FULL);
            b.fill(2, 0, 0, 1, 1, 0, 0, 0, 0, 0, 1, 1, 0, 0, 0);
            Bench.due(b.x.join(2, 3, 0, 1), Bench.FULL);
            Bench.due(b.x.lay(2, 2, 2, 0, 0), 1);
            b.dueText(2, 2, "1");
        });
        Bench.sentence("lay: INDEX if not all these elements exist", b -> {
            for (int lane = 0; lane <= 3; lane++) {
                b.renew();
                b.x.sheet(0, lane, 24);
                b.fill(0, lane, 19, 1);
                b.fill(0, lane, 7, 1);
                Bench.due(b.x.lay(0, 0, 0, lane, 12), 1);
                Bench.due(b.x.lay(0, 0, 0, lane, 13), INDEX);
                Bench.due(b.x.lay(0, 0, 0, lane, 0), 1);
                Bench.due(b.x.lay(0, 0, 0, lane, -1), INDEX);
                Bench.due(b.x.lay(0, 0, 0, lane, MAX), INDEX);
                Bench.due(b.x.lay(0, 0, 0, lane, MAX - 11), INDEX);
                Bench.due(b.x.lay(0, 0, 0, lane, MIN), INDEX);
                b.x.sheet(0, lane, 12);
                b.fill(0, lane, 7, 1);
                Bench.due(b.x.lay(0, 0, 0, lane, 0), 1);
                Bench.due(b.x.lay(0, 0, 0, lane, 1), INDEX);
                b.x.sheet(0, lane, 11);
                b.fill(0, lane, 7, 1);
                Bench.due(b.x.lay(0, 0, 0, lane, 0), INDEX);
                b.x.sheet(0, lane, 0);
                Bench.due(b.x.lay(0, 0, 0, lane, 0), INDEX);
                Bench.due(b.x.count(5), 3);
            }
        });
        Bench.sentence("lay: NOT if one of them is not 0 to 100, or the denominator is 0", b -> {
            b.x.sheet(0, 3, 14);
            Bench.due(b.x.lay(0, 0, 0, 3, 1), NOT);
            for (int k = 0; k < 12; k++) {
                for (long v : new long[] {100, 101, -1, 1L << 32, Long.MIN_VALUE}) {
                    b.fill(0, 3, 8, 1);
                    b.fill(0, 3, 1 + k, v);
                    Bench.due("element " + k + " " + v, b.x.lay(0, 0, 0, 3, 1), v == 100 ? 1 : NOT);
                }
                b.fill(0, 3, 1 + k, 0);
            }
            // One coefficient of the denominator is enough; those outside do not matter.
            b.fill(0, 3, 0, 101);
            b.fill(0, 3, 13, -1);
            for (int k = 0; k <= 4; k++) {
                b.fill(0, 3, 8, 0, 0, 0, 0, 0);
                Bench.due(b.x.lay(0, 0, 0, 3, 1), NOT);
                b.fill(0, 3, 8 + k, 100);
                Bench.due(b.x.lay(0, 0, 0, 3, 1), 1);
                b.dueText(0, 0, "0");
            }
        });
        Bench.sentence("lay: the errors in their order", b -> {
            b.x.sheet(1, 3, 12);
            Bench.due(b.x.lay(0, 0, 0, 4, 99), BAD);
            Bench.due(b.x.lay(3, 0, 0, 0, 99), BAD);
            Bench.due(b.x.lay(0, 3, 0, 0, 99), BAD);
            Bench.due(b.x.lay(0, 0, 0, 0, 99), NULL);
            Bench.due(b.x.lay(0, 0, 1, 0, 99), CAST);
            Bench.due(b.x.lay(0, 0, 1, 3, 1), INDEX);
            Bench.due(b.x.lay(0, 0, 1, 3, 0), NOT);
            Bench.due(b.x.count(5), 0);
        });
    }

    private static void setFraction(Bench b) {
        b.x.sheet(0, 0, 12);
        b.fill(0, 0, 7, 1);
    }

    // ---- promise 27

    private static void film() {
        Bench.sentence("film: f: the function, 0 to 2", b -> {
            setFraction(b);
            Bench.dueRange(f -> b.x.film(f, 0, 0, 0, 0), 0, 2);
        });
        Bench.sentence("film: i: the term, -2 to 2", b -> {
            setFraction(b);
            Bench.dueRange(i -> b.x.film(0, i, 0, 0, 0), -2, 2);
        });
        Bench.sentence("film: sheet: the sheet, 0 to 3", b -> {
            setFraction(b);
            Bench.dueRange(s -> b.x.film(0, 0, s, 0, 0), 0, 3);
        });
        Bench.sentence("film: lane: the lane that it is expected to have, 0 to 3", b -> {
            setFraction(b);
            Bench.dueRange(lane -> b.x.film(0, 0, 0, lane, 0), 0, 3);
        });
        Bench.sentence("Writes a term to 12 elements of a sheet, in the same form as for lay(). Returns 12", b -> {
            for (int lane = 0; lane <= 3; lane++) {
                b.renew();
                b.lay(2, 2, Bench.row(1, 2, 3, 4, 5, 6, 100), Bench.row(8, 9, 10, 100, 1));
                b.x.sheet(0, lane, 16);
                for (int k = 0; k < 16; k++) {
                    b.fill(0, lane, k, 55);
                }
                int changes = b.x.count(5);
                Bench.due(b.x.film(2, 2, 0, lane, 2), 12);
                Bench.due(b.x.count(5), changes);
                b.dueElements(0, lane, 55, 55, 1, 2, 3, 4, 5, 6, 100, 8, 9, 10, 100, 1, 55, 55);
                // What is beyond the degrees is written too.
                Bench.due(b.x.film(1, 0, 0, lane, 0), 12);
                b.dueElements(0, lane, 0, 0, 0, 0, 0, 0, 0, 1, 0, 0, 0, 0, 100, 1, 55, 55);
            }
        });
        Bench.sentence("film: INDEX if not all these elements exist", b -> {
            for (int lane = 0; lane <= 3; lane++) {
                b.x.sheet(0, lane, 24);
                Bench.due(b.x.film(0, 0, 0, lane, 12), 12);
                Bench.due(b.x.film(0, 0, 0, lane, 0), 12);
                Bench.due(b.x.film(0, 0, 0, lane, 13), INDEX);
                Bench.due(b.x.film(0, 0, 0, lane, -1), INDEX);
                Bench.due(b.x.film(0, 0, 0, lane, MAX), INDEX);
                Bench.due(b.x.film(0, 0, 0, lane, MAX - 11), INDEX);
                Bench.due(b.x.film(0, 0, 0, lane, MIN), INDEX);
                b.x.sheet(0, lane, 12);
                Bench.due(b.x.film(0, 0, 0, lane, 0), 12);
                Bench.due(b.x.film(0, 0, 0, lane, 1), INDEX);
                b.x.sheet(0, lane, 11);
                Bench.due(b.x.film(0, 0, 0, lane, 0), INDEX);
                b.dueElements(0, lane, 0, 0, 0, 0, 0, 0, 0, 0, 0, 0, 0);
                b.x.sheet(0, lane, 0);
                Bench.due(b.x.film(0, 0, 0, lane, 0), INDEX);
            }
        });
        Bench.sentence("film: the errors in their order", b -> {
            b.x.sheet(1, 3, 12);
            Bench.due(b.x.film(0, 0, 0, 4, 99), BAD);
            Bench.due(b.x.film(3, 0, 0, 0, 99), BAD);
            Bench.due(b.x.film(0, -3, 0, 0, 99), BAD);
            Bench.due(b.x.film(0, 0, 4, 0, 99), BAD);
            Bench.due(b.x.film(0, 0, 0, 0, 99), NULL);
            Bench.due(b.x.film(0, 0, 1, 0, 99), CAST);
            Bench.due(b.x.film(0, 0, 1, 3, 1), INDEX);
        });
    }

    // ---- promises 28 and 29

    private static void sheet() {
        Bench.sentence("There are the sheets 0 to 3.", b -> {
            Bench.dueRange(s -> b.x.sheet(s, 0, 1), 0, 3);
            // Each of them is one of its own.
            for (int s = 0; s <= 3; s++) {
                Bench.due(b.x.sheet(s, s, 5 + s), 5 + s);
            }
            for (int s = 0; s <= 3; s++) {
                Bench.due(b.laneOf(s), s);
                Bench.due(b.x.drop(s), 5 + s);
            }
        });
        Bench.sentence("a lane, its element type: 0 byte, 1 short, 2 int, 3 long", b -> Bench.dueRange(lane -> b.x.sheet(0, lane, 1), 0, 3));
        Bench.sentence("sheet: n: the number of elements, at most 24; BAD if n is greater than 24", b -> {
            Bench.due(b.x.sheet(0, 0, 24), 24);
            Bench.due(b.x.item(0, 0, 23, 1), 1);
            Bench.due(b.x.item(0, 0, 24, 1), INDEX);
            Bench.due(b.x.sheet(0, 1, 25), BAD);
            Bench.due(b.x.sheet(0, 1, MAX), BAD);
            Bench.due(b.laneOf(0), 0);
            Bench.due(b.x.drop(0), 24);
        });
        Bench.sentence("has 0 to 24 elements: a sheet without elements is not missing", b -> {
            Bench.due(b.x.sheet(0, 2, 0), 0);
            Bench.due(b.x.item(0, 2, 0, 1), INDEX);
            Bench.due(b.x.item(0, 1, 0, 1), CAST);
            Bench.due(b.x.copy(0, 0, 0, 0, 0), 0);
            Bench.due(b.x.drop(0), 0);
            Bench.due(b.x.drop(0), NULL);
            Bench.due(b.x.copy(0, 0, 0, 0, 0), NULL);
        });
        Bench.sentence("SIZE if n is negative", b -> {
            Bench.due(b.x.sheet(0, 0, -1), SIZE);
            Bench.due(b.x.sheet(0, 0, MIN), SIZE);
            Bench.due(b.x.drop(0), NULL);
            Bench.due(b.x.sheet(0, 0, 3), 3);
            Bench.due(b.x.sheet(0, 1, -1), SIZE);
            Bench.due(b.laneOf(0), 0);
            Bench.due(b.x.drop(0), 3);
            // BAD counts first.
            Bench.due(b.x.sheet(4, 0, -1), BAD);
            Bench.due(b.x.sheet(-1, 0, -1), BAD);
            Bench.due(b.x.sheet(0, 4, -1), BAD);
            Bench.due(b.x.sheet(0, -1, -1), BAD);
        });
        Bench.sentence("Creates a sheet, in place of what is there. All elements are 0.", b -> {
            for (int lane = 0; lane <= 3; lane++) {
                b.x.sheet(1, lane, 24);
                for (int k = 0; k < 24; k++) {
                    b.fill(1, lane, k, 100);
                }
                for (int n : new int[] {24, 3, 24}) {
                    Bench.due(b.x.sheet(1, lane, n), n);
                    b.dueElements(1, lane, new int[n]);
                    Bench.due(b.x.item(1, lane, n, 0), INDEX);
                    b.fill(1, lane, n - 1, 100);
                }
                Bench.due(b.x.sheet(1, (lane + 1) % 4, 2), 2);
                Bench.due(b.laneOf(1), (lane + 1) % 4);
                b.dueElements(1, (lane + 1) % 4, 0, 0);
                Bench.due(b.x.drop(1), 2);
                Bench.due(b.x.sheet(1, lane, 24), 24);
                b.dueElements(1, lane, new int[24]);
            }
        });
    }

    private static void drop() {
        Bench.sentence("drop: sheet: the sheet, 0 to 3", b -> Bench.dueRange(s -> b.x.drop(s), 0, 3));
        Bench.sentence("Removes a sheet; it is missing afterwards. Returns the number of elements that it had; NULL", b -> {
            for (int n = 0; n <= 24; n++) {
                for (int s = 0; s <= 3; s++) {
                    Bench.due(b.x.drop(s), NULL);
                    b.x.sheet(s, s, n);
                    Bench.due(b.x.drop(s), n);
                    Bench.due(b.x.drop(s), NULL);
                    Bench.due(b.x.item(s, s, 0, 0), NULL);
                }
            }
        });
        Bench.sentence("drop: other sheets stay", b -> {
            for (int s = 0; s <= 3; s++) {
                b.x.sheet(s, 0, 3);
                b.fill(s, 0, 0, 10 + s);
            }
            b.x.drop(1);
            b.x.drop(3);
            b.dueElements(0, 0, 10, 0, 0);
            b.dueElements(2, 0, 12, 0, 0);
        });
    }

    // ---- promise 30

    private static void item() {
        Bench.sentence("item: sheet: the sheet, 0 to 3", b -> {
            for (int s = 0; s <= 3; s++) {
                b.x.sheet(s, 0, 1);
            }
            Bench.dueRange(s -> b.x.item(s, 0, 0, 0), 0, 3);
        });
        Bench.sentence("item: lane: the lane that it is expected to have, 0 to 3", b -> {
            b.x.sheet(0, 0, 1);
            Bench.dueRange(lane -> b.x.item(0, lane, 0, 0), 0, 3);
        });
        Bench.sentence("item: i: the index; INDEX", b -> {
            for (int lane = 0; lane <= 3; lane++) {
                b.x.sheet(0, lane, 24);
                Bench.due(b.x.item(0, lane, 0, 1), 1);
                Bench.due(b.x.item(0, lane, 23, 2), 1);
                Bench.due(b.x.item(0, lane, 24, 3), INDEX);
                Bench.due(b.x.item(0, lane, -1, 3), INDEX);
                Bench.due(b.x.item(0, lane, MAX, 3), INDEX);
                Bench.due(b.x.item(0, lane, MIN, 3), INDEX);
                Bench.due(b.element(0, lane, 0), 1);
                Bench.due(b.element(0, lane, 23), 2);
                Bench.due(b.element(0, lane, 1), 0);
                b.x.sheet(0, lane, 1);
                Bench.due(b.x.item(0, lane, 0, 1), 1);
                Bench.due(b.x.item(0, lane, 1, 1), INDEX);
                b.x.sheet(0, lane, 0);
                Bench.due(b.x.item(0, lane, 0, 1), INDEX);
            }
        });
        Bench.sentence("The value is narrowed to the element type as by a Java cast.", b -> {
            long[] values = {
                0, 1, 100, 101, 127, 128, 156, 255, 256, 257, 356, 357, -1, -128, -156, -256, 32767, 32768, 65535, 65536, 65636, 65637, -65536, -65436,
                2147483647L, 2147483648L, 4294967295L, 4294967296L, 4294967396L, 4294967397L, -4294967296L, -4294967196L, Long.MAX_VALUE, Long.MIN_VALUE,
                Long.MIN_VALUE + 100, Long.MIN_VALUE + 101, (1L << 40) + 7, (7L << 56) + 9, (1L << 31) + 100, (1L << 15) + 100, (1L << 7) + 100,
            };
            for (int lane = 0; lane <= 3; lane++) {
                for (long v : values) {
                    b.renew();
                    b.x.sheet(0, lane, 2);
                    b.fill(0, lane, 1, v);
                    long want = lane == 0 ? (byte) v : lane == 1 ? (short) v : lane == 2 ? (int) v : v;
                    Bench.due(v + " in lane " + lane, b.element(0, lane, 1), want >= 0 && want <= 100 ? (int) want : NOT);
                    Bench.due(b.element(0, lane, 0), 0);
                }
            }
        });
        Bench.sentence("item: the errors in their order", b -> {
            b.x.sheet(1, 3, 2);
            Bench.due(b.x.item(4, 0, 9, 1), BAD);
            Bench.due(b.x.item(0, 4, 9, 1), BAD);
            Bench.due(b.x.item(0, 0, 9, 1), NULL);
            Bench.due(b.x.item(1, 0, 9, 1), CAST);
            Bench.due(b.x.item(1, 3, 2, 1), INDEX);
            b.dueElements(1, 3, 0, 0);
        });
    }

    // ---- promise 31

    private static void fillRow(Bench b, int sheet, int lane, int n, int first) {
        b.x.sheet(sheet, lane, n);
        for (int k = 0; k < n; k++) {
            b.fill(sheet, lane, k, first + k);
        }
    }

    private static void copy() {
        Bench.sentence("copy: from: the sheet to copy from, 0 to 3", b -> {
            for (int s = 0; s <= 3; s++) {
                b.x.sheet(s, 0, 1);
            }
            Bench.dueRange(from -> b.x.copy(from, 0, 0, 0, 1), 0, 3);
        });
        Bench.sentence("copy: to: the sheet to copy to, 0 to 3", b -> {
            for (int s = 0; s <= 3; s++) {
                b.x.sheet(s, 0, 1);
            }
            Bench.dueRange(to -> b.x.copy(0, 0, to, 0, 1), 0, 3);
        });
        Bench.sentence("within one sheet, as if all were read before any is written", b -> {
            int n = 6;
            for (int i = 0; i < n; i++) {
                for (int j = 0; j < n; j++) {
                    for (int many = 0; many <= n - Math.max(i, j); many++) {
                        b.renew();
                        fillRow(b, 2, 1, n, 10);
                        int[] want = new int[n];
                        for (int k = 0; k < n; k++) {
                            want[k] = k >= j && k < j + many ? 10 + i + k - j : 10 + k;
                        }
                        Bench.due(b.x.copy(2, i, 2, j, many), many);
                        b.dueElements(2, 1, want);
                    }
                }
            }
        });
        Bench.sentence("Copies elements from one sheet to another one. Returns n", b -> {
            for (int lane = 0; lane <= 3; lane++) {
                b.renew();
                fillRow(b, 0, lane, 24, 1);
                fillRow(b, 2, lane, 24, 51);
                Bench.due(b.x.copy(0, 0, 2, 0, 0), 0);
                Bench.due(b.x.copy(0, 3, 2, 21, 3), 3);
                Bench.due(b.x.copy(0, 23, 2, 0, 1), 1);
                b.dueElements(2, lane, 24, 52, 53, 54, 55, 56, 57, 58, 59, 60, 61, 62, 63, 64, 65, 66, 67, 68, 69, 70, 71, 4, 5, 6);
                b.dueElements(0, lane, 1, 2, 3, 4, 5, 6, 7, 8, 9, 10, 11, 12, 13, 14, 15, 16, 17, 18, 19, 20, 21, 22, 23, 24);
                b.renew();
                fillRow(b, 0, lane, 24, 1);
                b.x.sheet(2, lane, 24);
                Bench.due(b.x.copy(0, 0, 2, 0, 24), 24);
                b.dueElements(2, lane, 1, 2, 3, 4, 5, 6, 7, 8, 9, 10, 11, 12, 13, 14, 15, 16, 17, 18, 19, 20, 21, 22, 23, 24);
            }
        });
        Bench.sentence("copy: NULL if one of the sheets is missing", b -> {
            b.x.sheet(0, 0, 2);
            Bench.due(b.x.copy(0, 0, 1, 0, 1), NULL);
            Bench.due(b.x.copy(1, 0, 0, 0, 1), NULL);
            Bench.due(b.x.copy(1, 0, 2, 0, 0), NULL);
            Bench.due(b.x.copy(1, -1, 1, -1, -1), NULL);
            Bench.due(b.x.copy(1, 0, 4, 0, 1), BAD);
            Bench.due(b.x.copy(-1, 0, 1, 0, 1), BAD);
        });
        Bench.sentence("copy: CAST if their lanes differ", b -> {
            for (int one = 0; one <= 3; one++) {
                for (int other = 0; other <= 3; other++) {
                    b.x.sheet(0, one, 2);
                    b.x.sheet(1, other, 2);
                    Bench.due(b.x.copy(0, 0, 1, 0, 1), one == other ? 1 : CAST);
                    Bench.due(b.x.copy(0, 0, 1, 0, 0), one == other ? 0 : CAST);
                    Bench.due(b.x.copy(0, -1, 1, 0, 3), one == other ? INDEX : CAST);
                }
            }
        });
        Bench.sentence("copy: INDEX if i, j or n is negative, or if i + n or j + n (computed without overflow) is greater than the length of its sheet", b -> {
            fillRow(b, 0, 0, 7, 1);
            fillRow(b, 1, 0, 5, 21);
            int[][] refused = {
                {-1, 0, 1}, {0, -1, 1}, {0, 0, -1}, {-1, -1, -1}, {MIN, 0, 0}, {0, MIN, 0}, {0, 0, MIN}, {-1, 0, 0}, {0, -1, 0},
                {7, 0, 1}, {8, 0, 0}, {0, 5, 1}, {0, 6, 0}, {0, 0, 6}, {3, 0, 5}, {0, 1, 5}, {6, 0, 2}, {0, 4, 2},
                {MAX, 0, 1}, {0, MAX, 1}, {0, 0, MAX}, {1, 0, MAX}, {0, 1, MAX}, {MAX, MAX, MAX}, {MAX, MAX, 2}, {MAX, 0, 0}, {0, MAX, 0}, {MAX, 0, MAX},
            };
            for (int[] v : refused) {
                Bench.due(v[0] + ", " + v[1] + ", " + v[2], b.x.copy(0, v[0], 1, v[1], v[2]), INDEX);
            }
            b.dueElements(1, 0, 21, 22, 23, 24, 25);
            int[][] allowed = {{7, 5, 0}, {7, 0, 0}, {0, 5, 0}, {6, 4, 1}, {2, 0, 5}, {0, 0, 5}};
            for (int[] v : allowed) {
                Bench.due(v[0] + ", " + v[1] + ", " + v[2], b.x.copy(0, v[0], 1, v[1], v[2]), v[2]);
            }
            b.dueElements(1, 0, 1, 2, 3, 4, 5);
        });
    }
}
