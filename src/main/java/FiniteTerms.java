import java.util.Arrays;

/** Symbolic integration in finite terms over the integers modulo 101. */
public final class FiniteTerms {
    public static final int BAD = -1, NOT = -2, FULL = -3, NONE = -4, NULL = -11, CAST = -12, INDEX = -13, SIZE = -14;

    private static final int PRIME = 101;
    private static final int MINUS = PRIME - 1;
    private static final int FUNCTIONS = 3;
    /** A function has the terms -REACH to REACH. */
    private static final int REACH = 2;
    private static final int TERMS = 2 * REACH + 1;
    private static final int TOP = 6;
    private static final int BOTTOM = 4;
    /** A term as a row: TOP + 1 coefficients of the numerator, then BOTTOM + 1 of the denominator. */
    private static final int CELLS = TOP + BOTTOM + 2;
    private static final int PLAIN = 0;
    private static final int LOGARITHM = 2;
    private static final int UNDOS = 6;
    private static final int TAPE = 90;
    private static final int NESTING = 6;
    private static final int FAULT = -20;
    private static final int SHEETS = 4;
    private static final int LANES = 4;
    private static final int WIDTH = 24;
    /**
     * Coefficients that a polynomial has room for. The greatest degree is 44, in the sum of the five products
     * that make up one term of a product of functions.
     */
    private static final int ROOM = 48;

    private static final int[] INVERSES = {
        0, 1, 51, 34, 76, 81, 17, 29, 38, 45, 91, 46, 59, 70, 65, 27, 19,
        6, 73, 16, 96, 77, 23, 22, 80, 97, 35, 15, 83, 7, 64, 88, 60, 49,
        3, 26, 87, 71, 8, 57, 48, 69, 89, 47, 62, 9, 11, 43, 40, 33, 99,
        2, 68, 61, 58, 90, 92, 39, 54, 12, 32, 53, 44, 93, 30, 14, 75, 98,
        52, 41, 13, 37, 94, 18, 86, 66, 4, 21, 79, 78, 24, 5, 85, 28, 95,
        82, 74, 36, 31, 42, 55, 10, 56, 63, 72, 84, 20, 25, 67, 50, 100,
    };

    private final Board now = new Board();
    private final History past = new History();
    private final Board savedNow = new Board();
    private final History savedPast = new History();
    private boolean saved = false;
    private final Sheet[] sheets = new Sheet[SHEETS];
    private final Kit kit = new Kit();
    private final Splitter splitter = new Splitter(kit);
    private final Parts parts = new Parts(kit, splitter);
    private final Parts otherParts = new Parts(kit, splitter);
    private final Residues residues = new Residues(kit);
    private final Reader reader = new Reader(kit);
    private final Writer writer = new Writer();
    private final Frac[] results = new Frac[TERMS];
    private final Frac given = new Frac();
    private final Frac second = new Frac();
    private final Frac total = new Frac();
    private final Poly answer = new Poly();

    public FiniteTerms() {
        for (int k = 0; k < sheets.length; k++) {
            sheets[k] = new Sheet();
        }
        for (int k = 0; k < results.length; k++) {
            results[k] = new Frac();
        }
    }

    // ---- functions

    public int coef(int f, int i, int what, int k) {
        int term = termOf(f, i);
        if (term < 0 || !within(what, 0, 1) || k < 0) {
            return BAD;
        }
        int top = what == 0 ? TOP : BOTTOM;
        return k > top ? 0 : now.cell(term, what == 0 ? k : TOP + 1 + k);
    }

    public int letter(int f, int i, int k) {
        int term = termOf(f, i);
        if (term < 0 || k < 0) {
            return BAD;
        }
        now.load(term, given);
        writer.writeFraction(given);
        int sign = writer.sign(k);
        return sign < 0 ? NONE : sign;
    }

    public int value(int f, int i, int x) {
        int term = termOf(f, i);
        if (term < 0 || !within(x, 0, PRIME - 1)) {
            return BAD;
        }
        return now.valueOf(term, x);
    }

    public int told(int f, int what) {
        if (!isFunction(f) || !within(what, 0, 3)) {
            return BAD;
        }
        switch (what) {
            case 0:
                return now.filled(f);
            case 1:
                return now.denominators(f);
            case 2:
                return now.leastTwin(f);
            default:
                return now.fits(f) ? 1 : 0;
        }
    }

    public int count(int what) {
        if (!within(what, 0, 5)) {
            return BAD;
        }
        if (what == 0) {
            return now.kind;
        }
        return what == 5 ? past.size : now.uAt(what - 1);
    }

    public int type(int letter) {
        if (!within(letter, 32, 126)) {
            return BAD;
        }
        return reader.append(letter) ? reader.length : FULL;
    }

    public int read(int f, int i) {
        int term = termOf(f, i);
        if (term < 0) {
            return BAD;
        }
        int error = reader.compile();
        if (error == 0) {
            error = reader.evaluate(given);
        }
        reader.empty();
        if (error != 0) {
            return error;
        }
        past.push(now);
        now.store(term, given);
        writer.writeFraction(given);
        return writer.length;
    }

    public int tower(int kind, int a, int b, int c, int d) {
        if (!within(kind, 0, 2) || !isNumber(a) || !isNumber(b) || !isNumber(c) || !isNumber(d)) {
            return BAD;
        }
        int degree = d != 0 ? 3 : c != 0 ? 2 : b != 0 ? 1 : 0;
        if (kind == PLAIN && (degree > 0 || a != 0)) {
            return BAD;
        }
        if (kind != PLAIN && degree == 0 || now.hasTower(kind, a, b, c, d)) {
            return NOT;
        }
        past.push(now);
        now.setTower(kind, a, b, c, d);
        return degree;
    }

    public int join(int f, int act, int g, int h) {
        if (!isFunction(f) || !within(act, 0, 3) || !isFunction(g) || !isFunction(h)) {
            return BAD;
        }
        if (act == 3 && Integer.bitCount(now.filled(h)) != 1) {
            return NOT;
        }
        boolean fit;
        if (act < 2) {
            fit = addTerms(g, h, act == 0 ? 1 : MINUS);
        } else {
            fit = act == 2 ? multiplyTerms(g, h) : divideTerms(g, h);
        }
        return fit ? keepResults(f) : FULL;
    }

    public int derive(int f, int g) {
        if (!isFunction(f) || !isFunction(g)) {
            return BAD;
        }
        if (!now.fits(g)) {
            return NOT;
        }
        parts.prepare(now);
        for (int i = -REACH; i <= REACH; i++) {
            now.load(termOf(g, i), given);
            now.load(i < REACH ? termOf(g, i + 1) : -1, second);
            parts.differentiate(i, given, second, result(i));
            if (!result(i).isTerm()) {
                return FULL;
            }
        }
        return keepResults(f);
    }

    public int drift(int n) {
        if (!within(n, 1, 40)) {
            return BAD;
        }
        for (int turn = 0; turn < n; turn++) {
            past.push(now);
            int v = now.draw();
            int w = now.draw();
            int z = now.draw();
            given.num.clear();
            given.num.put(0, w % PRIME);
            given.num.put(1, w / PRIME % PRIME);
            given.num.put(2, w / (PRIME * PRIME));
            answer.clear();
            answer.put(0, z / 4 % PRIME);
            answer.put(1, 1);
            kit.raise(answer, z % 4, given.den);
            kit.reduce(given);
            now.store(termOf(v % FUNCTIONS, v / 4 % TERMS - REACH), given);
        }
        int fitting = 0;
        for (int f = 0; f < FUNCTIONS; f++) {
            fitting |= now.fits(f) ? 1 << f : 0;
        }
        return fitting;
    }

    public int undo() {
        return past.pop(now) ? past.size : NONE;
    }

    public int seed(int v) {
        if (v < 0) {
            return BAD;
        }
        int previous = now.random;
        now.random = v;
        return previous;
    }

    // ---- integrals

    public int part(int f, int i, int m, int k) {
        int term = termOf(f, i);
        if (term < 0 || !within(m, 1, 4) || k < 0) {
            return BAD;
        }
        now.load(term, given);
        splitter.factorsOf(given.den, m, answer);
        return answer.at(k);
    }

    public int split(int f, int i, int what, int k) {
        int term = termOf(f, i);
        if (term < 0 || !within(what, 0, 3) || k < 0) {
            return BAD;
        }
        now.load(term, given);
        answer.clear();
        splitter.run(given, answer, result(0), second);
        Frac chosen = what < 2 ? result(0) : second;
        return (what % 2 == 0 ? chosen.num : chosen.den).at(k);
    }

    public int asked(int f, int what) {
        if (!isFunction(f) || !within(what, 0, 4)) {
            return BAD;
        }
        if (!now.fits(f)) {
            return NOT;
        }
        parts.compute(now, f);
        if (what == 0) {
            return parts.whole ? 1 : 0;
        }
        if (what == 1) {
            return parts.whole ? NONE : parts.obstacle + REACH;
        }
        residues.compute(parts.rest(0));
        if (what == 2) {
            return residues.logarithms();
        }
        return what == 3 ? residues.openDegree() : residues.roots.deg;
    }

    public int integral(int f, int i, int what, int k) {
        if (!isFunction(f) || !within(i, -REACH, REACH + 1) || !within(what, 0, 1) || k < 0) {
            return BAD;
        }
        if (!now.fits(f)) {
            return NOT;
        }
        parts.compute(now, f);
        if (!parts.whole) {
            return NONE;
        }
        Frac q = parts.piece(i);
        return (what == 0 ? q.num : q.den).at(k);
    }

    public int left(int f, int i, int what, int k) {
        if (termOf(f, i) < 0 || !within(what, 0, 1) || k < 0) {
            return BAD;
        }
        if (!now.fits(f)) {
            return NOT;
        }
        parts.compute(now, f);
        Frac r = parts.rest(i);
        return (what == 0 ? r.num : r.den).at(k);
    }

    public int residue(int f, int k) {
        if (!isFunction(f) || k < 0) {
            return BAD;
        }
        if (!now.fits(f)) {
            return NOT;
        }
        parts.compute(now, f);
        residues.compute(parts.rest(0));
        return residues.roots.at(k);
    }

    public int log(int f, int j, int what, int k) {
        if (!isFunction(f) || j < 0 || !within(what, 0, 1) || k < 0) {
            return BAD;
        }
        if (!now.fits(f)) {
            return NOT;
        }
        parts.compute(now, f);
        residues.compute(parts.rest(0));
        int c = residues.number(j);
        if (c < 0) {
            return NONE;
        }
        if (what == 0) {
            return c;
        }
        residues.argument(c, answer);
        return answer.at(k);
    }

    public int pencil(int f, int g, int what) {
        if (!isFunction(f) || !isFunction(g) || !within(what, 0, 1)) {
            return BAD;
        }
        if (!now.fits(f) || !now.fits(g)) {
            return NOT;
        }
        parts.compute(now, f);
        otherParts.compute(now, g);
        parts.compare(otherParts);
        int found = 0;
        int least = NONE;
        for (int c = PRIME - 1; c >= 0; c--) {
            if (parts.suits(c)) {
                found++;
                least = c;
            }
        }
        return what == 0 ? found : least;
    }

    public int image() {
        savedNow.become(now);
        savedPast.become(past);
        saved = true;
        return 1;
    }

    public int restore() {
        if (!saved) {
            return NONE;
        }
        now.become(savedNow);
        past.become(savedPast);
        return 1;
    }

    // ---- sheets

    public int seen(int sheet, int lane, int i, int n) {
        if (!isSheet(sheet) || !within(lane, 0, LANES - 1) || !within(n, 1, 8)) {
            return BAD;
        }
        Sheet from = sheets[sheet];
        int error = from.refusal(lane, i, 2 * n);
        if (error != 0) {
            return error;
        }
        if (!from.holdsNumbers(i, 2 * n)) {
            return NOT;
        }
        int found = 0;
        for (int term = 0; term < FUNCTIONS * TERMS; term++) {
            boolean same = true;
            for (int k = 0; k < n && same; k++) {
                same = now.valueOf(term, from.number(i + 2 * k)) == from.number(i + 2 * k + 1);
            }
            found |= same ? 1 << term : 0;
        }
        return found;
    }

    public int lay(int f, int i, int sheet, int lane, int at) {
        int term = termOf(f, i);
        if (term < 0 || !isSheet(sheet) || !within(lane, 0, LANES - 1)) {
            return BAD;
        }
        Sheet from = sheets[sheet];
        int error = from.refusal(lane, at, CELLS);
        if (error != 0) {
            return error;
        }
        if (!from.holdsNumbers(at, CELLS)) {
            return NOT;
        }
        given.num.clear();
        given.den.clear();
        for (int k = 0; k <= TOP; k++) {
            given.num.put(k, from.number(at + k));
        }
        for (int k = 0; k <= BOTTOM; k++) {
            given.den.put(k, from.number(at + TOP + 1 + k));
        }
        if (given.den.deg < 0) {
            return NOT;
        }
        kit.reduce(given);
        past.push(now);
        now.store(term, given);
        return 1;
    }

    public int film(int f, int i, int sheet, int lane, int at) {
        int term = termOf(f, i);
        if (term < 0 || !isSheet(sheet) || !within(lane, 0, LANES - 1)) {
            return BAD;
        }
        Sheet to = sheets[sheet];
        int error = to.refusal(lane, at, CELLS);
        if (error != 0) {
            return error;
        }
        for (int k = 0; k < CELLS; k++) {
            to.set(at + k, now.cell(term, k));
        }
        return CELLS;
    }

    public int sheet(int sheet, int lane, int n) {
        if (!isSheet(sheet) || !within(lane, 0, LANES - 1) || n > WIDTH) {
            return BAD;
        }
        if (n < 0) {
            return SIZE;
        }
        sheets[sheet].create(lane, n);
        return n;
    }

    public int drop(int sheet) {
        if (!isSheet(sheet)) {
            return BAD;
        }
        Sheet old = sheets[sheet];
        if (old.isMissing()) {
            return NULL;
        }
        old.lane = Sheet.MISSING;
        return old.size;
    }

    public int item(int sheet, int lane, int i, long v) {
        if (!isSheet(sheet) || !within(lane, 0, LANES - 1)) {
            return BAD;
        }
        int error = sheets[sheet].refusal(lane, i, 1);
        if (error != 0) {
            return error;
        }
        sheets[sheet].set(i, v);
        return 1;
    }

    public int copy(int from, int i, int to, int j, int n) {
        if (!isSheet(from) || !isSheet(to)) {
            return BAD;
        }
        Sheet source = sheets[from];
        Sheet target = sheets[to];
        if (source.isMissing() || target.isMissing()) {
            return NULL;
        }
        if (source.lane != target.lane) {
            return CAST;
        }
        if (!source.covers(i, n) || !target.covers(j, n)) {
            return INDEX;
        }
        System.arraycopy(source.items, i, target.items, j, n);
        return n;
    }

    // ---- arguments and results

    private static boolean within(int v, int least, int greatest) {
        return v >= least && v <= greatest;
    }

    private static boolean isNumber(long v) {
        return v >= 0 && v < PRIME;
    }

    private static boolean isFunction(int f) {
        return f >= 0 && f < FUNCTIONS;
    }

    private boolean isSheet(int sheet) {
        return sheet >= 0 && sheet < sheets.length;
    }

    /** Returns the row of term i of function f, or -1 if there is none. */
    private static int termOf(int f, int i) {
        return isFunction(f) && within(i, -REACH, REACH) ? f * TERMS + i + REACH : -1;
    }

    private static int inverse(int v) {
        return v >= 0 && v < INVERSES.length ? INVERSES[v] : 0;
    }

    /** Returns the place where term i of a result is built, because f may be an operand too. */
    private Frac result(int i) {
        int k = i + REACH;
        return k >= 0 && k < results.length ? results[k] : second;
    }

    private int keepResults(int f) {
        past.push(now);
        for (int i = -REACH; i <= REACH; i++) {
            now.store(termOf(f, i), result(i));
        }
        return now.filled(f);
    }

    private boolean addTerms(int g, int h, int factor) {
        for (int i = -REACH; i <= REACH; i++) {
            now.load(termOf(g, i), given);
            now.load(termOf(h, i), second);
            kit.sum(result(i), given, second, factor);
            if (!result(i).isTerm()) {
                return false;
            }
        }
        return true;
    }

    private boolean multiplyTerms(int g, int h) {
        for (int k = -2 * REACH; k <= 2 * REACH; k++) {
            total.setNumber(0);
            for (int i = -REACH; i <= REACH; i++) {
                if (within(k - i, -REACH, REACH)) {
                    now.load(termOf(g, i), given);
                    now.load(termOf(h, k - i), second);
                    kit.times(given, given, second);
                    kit.sum(total, total, given, 1);
                }
            }
            if (!keepTerm(k, total)) {
                return false;
            }
        }
        return true;
    }

    private boolean divideTerms(int g, int h) {
        int shift = Integer.numberOfTrailingZeros(now.filled(h)) - REACH;
        now.load(termOf(h, shift), second);
        for (int k = -2 * REACH; k <= 2 * REACH; k++) {
            now.load(termOf(g, k + shift), given);
            kit.over(given, given, second);
            if (!keepTerm(k, given)) {
                return false;
            }
        }
        return true;
    }

    /** Takes over a term of a result; tells whether it keeps to the limits. */
    private boolean keepTerm(int k, Frac term) {
        if (!within(k, -REACH, REACH)) {
            return term.num.deg < 0;
        }
        result(k).become(term);
        return term.isTerm();
    }

    /** A polynomial modulo 101. Coefficients above the degree are 0; the polynomial 0 has the degree -1. */
    private static final class Poly {
        final int[] c = new int[ROOM];
        int deg = -1;

        int at(int k) {
            return k >= 0 && k <= deg && k < c.length ? c[k] : 0;
        }

        int head() {
            return deg >= 0 && deg < c.length ? c[deg] : 0;
        }

        void put(int k, int v) {
            if (k >= 0 && k < c.length) {
                c[k] = v % PRIME;
                settle(Math.max(k, deg));
            }
        }

        /** Finds the degree, which is at most top. */
        void settle(int top) {
            int k = top;
            while (k >= 0 && (k >= c.length || c[k] == 0)) {
                k--;
            }
            deg = k;
        }

        void clear() {
            for (int k = 0; k <= deg && k < c.length; k++) {
                c[k] = 0;
            }
            deg = -1;
        }

        void setNumber(int v) {
            clear();
            c[0] = v % PRIME;
            settle(0);
        }

        void become(Poly a) {
            int last = Math.max(deg, a.deg);
            for (int k = 0; k <= last && k < c.length && k < a.c.length; k++) {
                c[k] = a.c[k];
            }
            deg = a.deg;
        }

        void scale(int factor) {
            for (int k = 0; k < c.length && k <= deg; k++) {
                c[k] = c[k] * factor % PRIME;
            }
            settle(deg);
        }

        /** Adds factor * x^shift * a. */
        void addMultiple(Poly a, int factor, int shift) {
            if (shift < 0 || shift >= c.length) {
                return;
            }
            int end = Math.min(Math.min(a.deg + 1, a.c.length), c.length - shift);
            for (int k = 0; k < end; k++) {
                c[k + shift] = (c[k + shift] + factor * a.c[k]) % PRIME;
            }
            settle(Math.max(deg, end - 1 + shift));
        }

        /** Becomes a * b; neither of them is this polynomial. */
        void product(Poly a, Poly b) {
            clear();
            for (int k = 0; k <= a.deg; k++) {
                addMultiple(b, a.at(k), k);
            }
        }

        /** Becomes the derivative of a, which is another polynomial. */
        void slope(Poly a) {
            clear();
            for (int k = 1; k <= a.deg; k++) {
                put(k - 1, k * a.at(k));
            }
        }

        /** Becomes its rest modulo d, which is another polynomial. */
        void reduceBy(Poly d) {
            int inverse = inverse(d.head());
            for (int k = deg; k >= d.deg && inverse != 0; k--) {
                strike(d, k, inverse);
            }
            settle(deg);
        }

        /** Becomes the quotient of rest by d, and rest becomes the rest; all three differ. */
        void quotient(Poly rest, Poly d) {
            clear();
            int inverse = inverse(d.head());
            for (int k = rest.deg; k >= d.deg && inverse != 0; k--) {
                int factor = rest.strike(d, k, inverse);
                if (k - d.deg < c.length) {
                    c[k - d.deg] = factor;
                }
            }
            settle(rest.deg);
            rest.settle(rest.deg);
        }

        /** Takes off the multiple of d that makes coefficient k 0, and returns its factor. */
        private int strike(Poly d, int k, int inverse) {
            int from = k - d.deg;
            if (from < 0 || k >= c.length || d.deg >= d.c.length) {
                return 0;
            }
            int factor = c[k] * inverse % PRIME;
            for (int j = 0; j <= d.deg && factor != 0; j++) {
                c[from + j] = (c[from + j] + (PRIME - factor) * d.c[j]) % PRIME;
            }
            return factor;
        }

        int valueAt(int x) {
            int sum = 0;
            for (int k = deg; k >= 0; k--) {
                sum = (sum * x + at(k)) % PRIME;
            }
            return sum;
        }
    }

    /** A numerator over a denominator; what is kept for later is reduced. */
    private static final class Frac {
        final Poly num = new Poly();
        final Poly den = new Poly();

        Frac() {
            den.c[0] = 1;
            den.deg = 0;
        }

        void setNumber(int v) {
            num.setNumber(v);
            den.setNumber(1);
        }

        void become(Frac a) {
            take(a.num, a.den);
        }

        void take(Poly above, Poly below) {
            num.become(above);
            den.become(below);
        }

        boolean isTerm() {
            return num.deg <= TOP && den.deg <= BOTTOM;
        }
    }

    /** Arithmetic that needs room for what is between its steps. */
    private static final class Kit {
        final Poly first = new Poly();
        final Poly second = new Poly();
        final Poly third = new Poly();
        final Poly fourth = new Poly();
        final Poly common = new Poly();
        final Poly up = new Poly();
        final Poly down = new Poly();
        final Poly spare = new Poly();

        /** Sets out to the greatest common divisor with head 1. */
        void divisor(Poly a, Poly b, Poly out) {
            Poly p = first;
            Poly r = second;
            p.become(a);
            r.become(b);
            for (int k = 0; k < 2 * ROOM && r.deg >= 0; k++) {
                p.reduceBy(r);
                Poly swapped = p;
                p = r;
                r = swapped;
            }
            out.become(p);
            out.scale(inverse(p.head()));
        }

        /** Sets out to the inverse of a modulo m; they have no common divisor, and the degree of m is not 0. */
        void invert(Poly a, Poly m, Poly out) {
            Poly p = first;
            Poly r = second;
            Poly s = third;
            Poly t = fourth;
            p.become(m);
            r.become(a);
            r.reduceBy(m);
            s.clear();
            t.setNumber(1);
            for (int k = 0; k < 2 * ROOM && r.deg > 0; k++) {
                cancel(p, r, s, t);
                Poly swapped = p;
                p = r;
                r = swapped;
                swapped = s;
                s = t;
                t = swapped;
            }
            out.become(t);
            out.scale(inverse(r.head()));
        }

        /** Takes from p its multiple of r, and from s the same multiple of t. */
        private void cancel(Poly p, Poly r, Poly s, Poly t) {
            int inverse = inverse(r.head());
            for (int k = p.deg; k >= r.deg; k--) {
                int factor = PRIME - p.at(k) * inverse % PRIME;
                p.addMultiple(r, factor, k - r.deg);
                s.addMultiple(t, factor, k - r.deg);
            }
        }

        /** Sets out to the power n of p, which is another polynomial. */
        void raise(Poly p, int n, Poly out) {
            out.setNumber(1);
            for (int k = 0; k < n; k++) {
                spare.product(out, p);
                out.become(spare);
            }
        }

        /** Divides p by a polynomial that divides it. */
        void cut(Poly p, Poly d) {
            spare.quotient(p, d);
            p.become(spare);
        }

        void reduce(Frac f) {
            if (f.num.deg < 0) {
                f.den.setNumber(1);
                return;
            }
            if (f.den.deg > 0) {
                divisor(f.num, f.den, common);
                if (common.deg > 0) {
                    cut(f.num, common);
                    cut(f.den, common);
                }
            }
            int inverse = inverse(f.den.head());
            f.num.scale(inverse);
            f.den.scale(inverse);
        }

        /** Sets out, perhaps an operand too, to a + factor * b. */
        void sum(Frac out, Frac a, Frac b, int factor) {
            up.product(a.num, b.den);
            spare.product(b.num, a.den);
            up.addMultiple(spare, factor, 0);
            down.product(a.den, b.den);
            out.take(up, down);
            reduce(out);
        }

        void times(Frac out, Frac a, Frac b) {
            up.product(a.num, b.num);
            down.product(a.den, b.den);
            out.take(up, down);
            reduce(out);
        }

        /** Sets out to a / b, where b is not 0. */
        void over(Frac out, Frac a, Frac b) {
            up.product(a.num, b.den);
            down.product(a.den, b.num);
            out.take(up, down);
            reduce(out);
        }

        /** Returns the number e for which p is e * base, or -1 if there is none. */
        int ratio(Poly p, Poly base) {
            int e = p.at(base.deg) * inverse(base.head()) % PRIME;
            for (int k = Math.max(p.deg, base.deg); k >= 0; k--) {
                if (p.at(k) != e * base.at(k) % PRIME) {
                    return -1;
                }
            }
            return e;
        }
    }

    /** Square-free parts, and the reduction of Hermite. */
    private static final class Splitter {
        final Kit kit;
        final Poly factor = new Poly();
        final Poly level = new Poly();
        final Poly power = new Poly();
        final Poly cofactor = new Poly();
        final Poly numerator = new Poly();
        final Poly whole = new Poly();
        final Poly held = new Poly();
        final Poly work = new Poly();

        Splitter(Kit kit) {
            this.kit = kit;
        }

        /** Sets out to the product of the factors that divide d exactly m times. */
        void factorsOf(Poly d, int m, Poly out) {
            // Dividing out all factors once: power, level and factor are d after m - 1, m and m + 1 times.
            power.become(d);
            thin(power, level);
            thin(level, factor);
            for (int k = 1; k < m; k++) {
                power.become(level);
                level.become(factor);
                thin(level, factor);
            }
            out.product(power, factor);
            kit.cut(out, level);
            kit.cut(out, level);
        }

        /** Sets out to d with each factor once less. */
        private void thin(Poly d, Poly out) {
            work.slope(d);
            kit.divisor(d, work, out);
        }

        /** Splits f by w: f is q' + w * q + r. */
        void run(Frac f, Poly w, Frac q, Frac r) {
            q.setNumber(0);
            r.become(f);
            if (f.num.deg < 0) {
                return;
            }
            thin(f.den, q.den);
            // What a step adds to q has a denominator that divides this one, so only numerators are added.
            int times = highest(r.den);
            for (int k = 0; k < ROOM && times > 1; k++) {
                lower(times, w, q, r);
                times = highest(r.den);
            }
            moveWhole(w, q, r);
            kit.reduce(q);
            kit.reduce(r);
        }

        /** Returns how often the most frequent factors divide d, and sets factor to their product. */
        private int highest(Poly d) {
            level.become(d);
            int times = 0;
            while (times < ROOM && level.deg > 0) {
                factor.become(level);
                thin(factor, level);
                times++;
            }
            return times;
        }

        /** Moves from r to q so much that the factors divide the denominator of r once less. */
        private void lower(int times, Poly w, Frac q, Frac r) {
            kit.raise(factor, times - 1, power);
            held.product(power, factor);
            work.become(r.den);
            cofactor.quotient(work, held);
            work.slope(factor);
            held.product(cofactor, work);
            kit.invert(held, factor, work);
            numerator.product(r.num, work);
            numerator.reduceBy(factor);
            numerator.scale(inverse(PRIME + 1 - times));

            work.product(held, numerator);
            r.num.addMultiple(work, times - 1, 0);
            kit.cut(r.num, factor);
            held.slope(numerator);
            work.product(w, numerator);
            held.addMultiple(work, 1, 0);
            work.product(cofactor, held);
            r.num.addMultiple(work, MINUS, 0);
            r.den.product(cofactor, power);

            work.become(q.den);
            held.quotient(work, power);
            work.product(held, numerator);
            q.num.addMultiple(work, 1, 0);
        }

        /** Moves from r to q as much of the polynomial part as w allows. */
        private void moveWhole(Poly w, Frac q, Frac r) {
            whole.quotient(r.num, r.den);
            held.clear();
            if (w.deg < 0) {
                for (int k = 0; k <= whole.deg; k++) {
                    held.put(k + 1, whole.at(k) * inverse(k + 1));
                }
                whole.clear();
            }
            for (int k = whole.deg; k >= w.deg && k >= 0; k--) {
                int power = k - w.deg;
                int c = whole.at(k) * inverse(w.head()) % PRIME;
                held.put(power, c);
                whole.addMultiple(w, PRIME - c, power);
                whole.put(power - 1, whole.at(power - 1) + (PRIME - c) * power);
            }
            work.product(held, q.den);
            q.num.addMultiple(work, 1, 0);
            work.product(whole, r.den);
            r.num.addMultiple(work, 1, 0);
        }
    }

    /** The parts and rests of a function, and whether it has an integral. */
    private static final class Parts {
        final Kit kit;
        final Splitter splitter;
        final Frac[] q = new Frac[TERMS + 1];
        final Frac[] r = new Frac[TERMS];
        final Frac spare = new Frac();
        final Frac term = new Frac();
        final Poly u = new Poly();
        final Poly slope = new Poly();
        final Poly one = new Poly();
        final Poly other = new Poly();
        final Poly base = new Poly();
        final Poly work = new Poly();
        final boolean[] suited = new boolean[PRIME];
        int kind = PLAIN;
        boolean whole = true;
        int obstacle = 0;

        Parts(Kit kit, Splitter splitter) {
            this.kit = kit;
            this.splitter = splitter;
            for (int k = 0; k < q.length; k++) {
                q[k] = new Frac();
            }
            for (int k = 0; k < r.length; k++) {
                r[k] = new Frac();
            }
        }

        Frac piece(int i) {
            int k = i + REACH;
            return k >= 0 && k < q.length ? q[k] : spare;
        }

        Frac rest(int i) {
            int k = i + REACH;
            return k >= 0 && k < r.length ? r[k] : spare;
        }

        void prepare(Board board) {
            kind = board.kind;
            board.loadU(u);
            slope.slope(u);
        }

        /** Sets out to term i of the derivative of a function with these terms i and i + 1. */
        void differentiate(int i, Frac here, Frac next, Frac out) {
            // (a / b)' + w * a / b is (a' * b - a * b' + w * a * b) / b^2.
            one.slope(here.num);
            if (kind != LOGARITHM) {
                work.product(slope, here.num);
                one.addMultiple(work, Math.floorMod(i, PRIME), 0);
            }
            out.num.product(one, here.den);
            other.slope(here.den);
            work.product(here.num, other);
            out.num.addMultiple(work, MINUS, 0);
            out.den.product(here.den, here.den);
            if (kind == LOGARITHM) {
                multiplyBySlope(next, i + 1);
                kit.sum(out, out, spare, 1);
            } else {
                kit.reduce(out);
            }
        }

        /** Sets spare to f * factor * u' / u. */
        private void multiplyBySlope(Frac f, int factor) {
            spare.num.product(f.num, slope);
            spare.num.scale(Math.floorMod(factor, PRIME));
            spare.den.product(f.den, u);
            kit.reduce(spare);
        }

        void compute(Board board, int f) {
            prepare(board);
            piece(REACH + 1).setNumber(0);
            for (int i = REACH; i >= -REACH; i--) {
                board.load(termOf(f, i), term);
                work.become(slope);
                work.scale(Math.floorMod(i, PRIME));
                if (kind == LOGARITHM) {
                    work.clear();
                    if (i >= 0) {
                        multiplyBySlope(piece(i + 1), i + 1);
                        kit.sum(term, term, spare, MINUS);
                    }
                }
                splitter.run(term, work, piece(i), rest(i));
            }
            judge();
        }

        private void judge() {
            whole = true;
            for (int i = REACH; i >= -REACH && whole; i--) {
                if (i != 0 && constant(i) < 0) {
                    whole = false;
                    obstacle = i;
                }
            }
            for (int i = 1; i <= REACH && whole && kind == LOGARITHM; i++) {
                Frac raised = piece(i + 1);
                raised.num.addMultiple(raised.den, constant(i) * inverse(i + 1) % PRIME, 0);
            }
        }

        /** Returns the number c for which rest i is c * u' / u with a logarithm, and 0 otherwise; -1 if there is none. */
        private int constant(int i) {
            one.become(rest(i).num);
            base.clear();
            if (kind == LOGARITHM) {
                one.product(rest(i).num, u);
                base.product(rest(i).den, slope);
            }
            return kit.ratio(one, base);
        }

        /** Finds the numbers c for which this function plus c times the other one has an integral. */
        void compare(Parts others) {
            for (int c = 0; c < suited.length; c++) {
                suited[c] = true;
            }
            // Splitting is linear, so the rests of the sum are the sums of the rests.
            for (int i = -REACH; i <= REACH; i++) {
                if (i != 0) {
                    compareRests(rest(i), others.rest(i));
                }
            }
        }

        private void compareRests(Frac mine, Frac theirs) {
            one.product(mine.num, theirs.den);
            other.product(theirs.num, mine.den);
            base.clear();
            if (kind == LOGARITHM) {
                work.product(one, u);
                one.become(work);
                work.product(other, u);
                other.become(work);
                work.product(mine.den, theirs.den);
                base.product(work, slope);
            }
            for (int c = 0; c < suited.length; c++) {
                if (suited[c]) {
                    work.become(one);
                    work.addMultiple(other, c, 0);
                    suited[c] = kit.ratio(work, base) >= 0;
                }
            }
        }

        boolean suits(int c) {
            return c >= 0 && c < suited.length && suited[c];
        }
    }

    /** The residues of a rest, and the logarithms that belong to them. */
    private static final class Residues {
        final Kit kit;
        final Poly above = new Poly();
        final Poly below = new Poly();
        final Poly slope = new Poly();
        final Poly root = new Poly();
        final Poly power = new Poly();
        final Poly work = new Poly();
        final Poly shifted = new Poly();
        final Poly sums = new Poly();
        /** The polynomial whose zeros are the residues. */
        final Poly roots = new Poly();

        Residues(Kit kit) {
            this.kit = kit;
        }

        void compute(Frac rest) {
            above.become(rest.num);
            below.become(rest.den);
            slope.slope(below);
            roots.setNumber(1);
            if (below.deg < 1) {
                return;
            }
            // At a zero of s the residue is a / s'. The sums of the powers of all residues are traces modulo s,
            // and give the coefficients by Newton's identities, as all degrees are below 101.
            kit.invert(slope, below, work);
            root.product(above, work);
            root.reduceBy(below);
            power.setNumber(1);
            sums.clear();
            for (int k = 1; k <= below.deg; k++) {
                work.product(power, root);
                work.reduceBy(below);
                power.become(work);
                sums.put(k, trace());
            }
            applyNewton();
        }

        /** Returns the trace of power modulo below; changes work. */
        private int trace() {
            int sum = 0;
            for (int k = 0; k < below.deg; k++) {
                sum += work.at(k);
                raise();
            }
            return sum % PRIME;
        }

        /** Multiplies work by x modulo below. */
        private void raise() {
            shifted.clear();
            shifted.addMultiple(work, 1, 1);
            shifted.reduceBy(below);
            work.become(shifted);
        }

        private void applyNewton() {
            int n = below.deg;
            roots.clear();
            roots.put(n, 1);
            for (int k = 1; k <= n; k++) {
                int sum = 0;
                for (int j = 1; j <= k; j++) {
                    sum += roots.at(n - k + j) * sums.at(j);
                }
                roots.put(n - k, MINUS * (sum % PRIME) % PRIME * inverse(k));
            }
        }

        int logarithms() {
            int found = 0;
            for (int c = 0; c < PRIME; c++) {
                found += roots.valueAt(c) == 0 ? 1 : 0;
            }
            return found;
        }

        /** Returns residue j in ascending order, or -1 if there is none. */
        int number(int j) {
            int before = 0;
            for (int c = 0; c < PRIME; c++) {
                if (roots.valueAt(c) == 0) {
                    if (before == j) {
                        return c;
                    }
                    before++;
                }
            }
            return -1;
        }

        /** Sets out to what the logarithm with the residue c is taken of. */
        void argument(int c, Poly out) {
            work.become(above);
            work.addMultiple(slope, PRIME - c, 0);
            kit.divisor(work, below, out);
        }

        int openDegree() {
            int open = below.deg;
            for (int c = 0; c < PRIME; c++) {
                if (roots.valueAt(c) == 0) {
                    argument(c, power);
                    open -= power.deg;
                }
            }
            return open;
        }
    }

    /** The tape, and the fraction that its text describes. */
    private static final class Reader {
        private static final int ATOM = 0, NUMBER = 1, BEHIND_ATOM = 2, FIGURE = 3, BEHIND_POWER = 4, WRONG = 5;
        /** Codes below SIGNS are numbers, which have at most three digits. */
        private static final int SIGNS = 1000, POWERS = 2000;
        /** At each depth at most one sum and one product wait, and the innermost has an operand more. */
        private static final int VALUES = 2 * (NESTING + 1) + 1;

        final Kit kit;
        final int[] tape = new int[TAPE];
        int length = 0;
        /** The text in the order of evaluation: operands before the operation. */
        final int[] codes = new int[TAPE];
        int codeCount = 0;
        /** Operations and parentheses that wait for what stands behind them. */
        final int[] waiting = new int[TAPE];
        int waitingCount = 0;
        int depth = 0;
        int digits = 0;
        final Frac[] values = new Frac[VALUES];
        int valueCount = 0;
        final Frac factor = new Frac();

        Reader(Kit kit) {
            this.kit = kit;
            for (int k = 0; k < values.length; k++) {
                values[k] = new Frac();
            }
        }

        boolean append(int sign) {
            if (length < 0 || length >= tape.length) {
                return false;
            }
            tape[length] = sign;
            length++;
            return true;
        }

        void empty() {
            length = 0;
        }

        /** Translates the text into codes; returns 0, or FAULT minus its fault. */
        int compile() {
            codeCount = 0;
            waitingCount = 0;
            depth = 0;
            int state = ATOM;
            for (int at = 0; at < length && at < tape.length; at++) {
                if (tape[at] != ' ') {
                    state = step(state, tape[at]);
                } else if (state == NUMBER) {
                    state = BEHIND_ATOM;
                }
                if (state == WRONG) {
                    return FAULT - at;
                }
            }
            if (state == ATOM || state == FIGURE || depth > 0) {
                return FAULT - length;
            }
            release(1);
            return 0;
        }

        private int step(int state, int sign) {
            switch (state) {
                case ATOM:
                    return operand(sign);
                case FIGURE:
                    if (sign < '0' || sign > '8') {
                        return WRONG;
                    }
                    emit(POWERS + sign - '0');
                    return BEHIND_POWER;
                case NUMBER:
                    if (isDigit(sign)) {
                        return nextDigit(sign);
                    }
                    return sign == '^' ? FIGURE : operation(sign);
                case BEHIND_ATOM:
                    return sign == '^' ? FIGURE : operation(sign);
                default:
                    return operation(sign);
            }
        }

        private int operand(int sign) {
            if (isDigit(sign)) {
                digits = 1;
                emit(sign - '0');
                return NUMBER;
            }
            if (sign == 'x') {
                emit(SIGNS + sign);
                return BEHIND_ATOM;
            }
            if (sign == '(' && depth < NESTING) {
                depth++;
                hold(sign);
                return ATOM;
            }
            return WRONG;
        }

        private int nextDigit(int sign) {
            int at = codeCount - 1;
            if (digits >= 3 || at < 0 || at >= codes.length) {
                return WRONG;
            }
            digits++;
            codes[at] = codes[at] * 10 + sign - '0';
            return NUMBER;
        }

        /** Takes a sign behind an operand. */
        private int operation(int sign) {
            if (sign == ')' && depth > 0) {
                depth--;
                release(1);
                waitingCount--;
                return BEHIND_ATOM;
            }
            int rank = rank(sign);
            if (rank == 0) {
                return WRONG;
            }
            release(rank);
            hold(sign);
            return ATOM;
        }

        private static boolean isDigit(int sign) {
            return sign >= '0' && sign <= '9';
        }

        private static int rank(int sign) {
            if (sign == '*' || sign == '/') {
                return 2;
            }
            return sign == '+' || sign == '-' ? 1 : 0;
        }

        private void hold(int sign) {
            if (waitingCount >= 0 && waitingCount < waiting.length) {
                waiting[waitingCount] = sign;
                waitingCount++;
            }
        }

        /** Emits the waiting operations of at least this rank, the latest first. */
        private void release(int rank) {
            for (int k = waitingCount - 1; k >= 0 && k < waiting.length && rank(waiting[k]) >= rank; k--) {
                emit(SIGNS + waiting[k]);
                waitingCount = k;
            }
        }

        private void emit(int code) {
            if (codeCount >= 0 && codeCount < codes.length) {
                codes[codeCount] = code;
                codeCount++;
            }
        }

        /** Sets out to the fraction; returns 0, NOT or FULL. */
        int evaluate(Frac out) {
            valueCount = 0;
            for (int k = 0; k < codeCount && k < codes.length; k++) {
                int code = codes[k];
                int error = 0;
                if (code < SIGNS) {
                    next().setNumber(code);
                } else if (code == SIGNS + 'x') {
                    Frac x = next();
                    x.setNumber(0);
                    x.num.put(1, 1);
                } else {
                    error = code < POWERS ? operate(code - SIGNS) : raise(code - POWERS);
                }
                if (error != 0) {
                    return error;
                }
            }
            out.become(valueFromTop(1));
            return 0;
        }

        private Frac next() {
            valueCount++;
            return valueFromTop(1);
        }

        /** Returns a value on the pile: the topmost one for 1. */
        private Frac valueFromTop(int k) {
            int at = valueCount - k;
            return at >= 0 && at < values.length ? values[at] : factor;
        }

        private int operate(int sign) {
            Frac a = valueFromTop(2);
            Frac b = valueFromTop(1);
            valueCount--;
            if (sign == '+' || sign == '-') {
                kit.sum(a, a, b, sign == '+' ? 1 : MINUS);
            } else if (sign == '*') {
                kit.times(a, a, b);
            } else if (b.num.deg < 0) {
                return NOT;
            } else {
                kit.over(a, a, b);
            }
            return a.isTerm() ? 0 : FULL;
        }

        private int raise(int figure) {
            Frac a = valueFromTop(1);
            factor.become(a);
            a.setNumber(1);
            for (int k = 0; k < figure; k++) {
                kit.times(a, a, factor);
                if (!a.isTerm()) {
                    return FULL;
                }
            }
            return 0;
        }
    }

    /** The text of a fraction. */
    private static final class Writer {
        final int[] signs = new int[2 * CELLS * 4];
        int length = 0;

        /** Returns a sign of the text, or -1 if it is shorter. */
        int sign(int k) {
            return k >= 0 && k < length && k < signs.length ? signs[k] : -1;
        }

        void writeFraction(Frac f) {
            length = 0;
            boolean plain = f.den.deg == 0;
            if (!plain) {
                add('(');
            }
            writePoly(f.num);
            if (!plain) {
                add(')');
                add('/');
                add('(');
                writePoly(f.den);
                add(')');
            }
        }

        private void writePoly(Poly p) {
            if (p.deg < 0) {
                add('0');
            }
            for (int k = p.deg; k >= 0; k--) {
                int c = p.at(k);
                if (c != 0) {
                    if (k < p.deg) {
                        add('+');
                    }
                    writeTerm(c, k);
                }
            }
        }

        private void writeTerm(int c, int k) {
            if (c != 1 || k == 0) {
                writeNumber(c);
                if (k > 0) {
                    add('*');
                }
            }
            if (k > 0) {
                add('x');
            }
            if (k > 1) {
                add('^');
                writeNumber(k);
            }
        }

        private void writeNumber(int v) {
            if (v >= 100) {
                add('0' + v / 100 % 10);
            }
            if (v >= 10) {
                add('0' + v / 10 % 10);
            }
            add('0' + v % 10);
        }

        private void add(int sign) {
            if (length >= 0 && length < signs.length) {
                signs[length] = sign;
                length++;
            }
        }
    }

    /** The state that undo() brings back: the functions, the tower and the random number. */
    private static final class Board {
        final int[] cells = new int[FUNCTIONS * TERMS * CELLS];
        final int[] u = new int[4];
        int kind = PLAIN;
        int random = 1;

        Board() {
            for (int at = TOP + 1; at < cells.length; at += CELLS) {
                cells[at] = 1;
            }
        }

        void become(Board a) {
            System.arraycopy(a.cells, 0, cells, 0, cells.length);
            System.arraycopy(a.u, 0, u, 0, u.length);
            kind = a.kind;
            random = a.random;
        }

        int cell(int term, int k) {
            return hasCell(term, k) ? cells[term * CELLS + k] : 0;
        }

        private static boolean hasCell(int term, int k) {
            return term >= 0 && term < FUNCTIONS * TERMS && k >= 0 && k < CELLS;
        }

        /** Sets out to a term; there is none where 0 is meant. */
        void load(int term, Frac out) {
            out.setNumber(0);
            if (!hasCell(term, 0)) {
                return;
            }
            for (int k = 0; k <= TOP; k++) {
                out.num.put(k, cell(term, k));
            }
            for (int k = 0; k <= BOTTOM; k++) {
                out.den.put(k, cell(term, TOP + 1 + k));
            }
        }

        void store(int term, Frac f) {
            if (!hasCell(term, CELLS - 1)) {
                return;
            }
            for (int k = 0; k < CELLS; k++) {
                cells[term * CELLS + k] = k <= TOP ? f.num.at(k) : f.den.at(k - TOP - 1);
            }
        }

        int valueOf(int term, int x) {
            int above = horner(term, TOP, 0, x);
            int below = horner(term, CELLS - 1, TOP + 1, x);
            return below == 0 ? NONE : above * inverse(below) % PRIME;
        }

        private int horner(int term, int last, int first, int x) {
            int sum = 0;
            for (int k = last; k >= first; k--) {
                sum = (sum * x + cell(term, k)) % PRIME;
            }
            return sum;
        }

        private boolean isZero(int term) {
            for (int k = 0; k <= TOP; k++) {
                if (cell(term, k) != 0) {
                    return false;
                }
            }
            return true;
        }

        /** Returns the set of the terms of f that are not 0. */
        int filled(int f) {
            int set = 0;
            for (int k = 0; k < TERMS; k++) {
                set |= isZero(f * TERMS + k) ? 0 : 1 << k;
            }
            return set;
        }

        boolean fits(int f) {
            int below = (1 << REACH) - 1;
            int at = 1 << REACH;
            if (kind == PLAIN) {
                return (filled(f) & ~at) == 0;
            }
            return kind != LOGARITHM || (filled(f) & below) == 0;
        }

        int denominators(int f) {
            int different = 0;
            for (int k = 0; k < TERMS; k++) {
                boolean fresh = true;
                for (int j = 0; j < k; j++) {
                    fresh &= !agree(f * TERMS + j, f * TERMS + k, TOP + 1);
                }
                different += fresh ? 1 : 0;
            }
            return different;
        }

        /** Tells whether two terms have the same cells as of the given one. */
        private boolean agree(int term, int other, int first) {
            for (int k = first; k < CELLS; k++) {
                if (cell(term, k) != cell(other, k)) {
                    return false;
                }
            }
            return true;
        }

        int leastTwin(int f) {
            for (int g = 0; g < f; g++) {
                boolean twin = true;
                for (int k = 0; k < TERMS && twin; k++) {
                    twin = agree(g * TERMS + k, f * TERMS + k, 0);
                }
                if (twin) {
                    return g;
                }
            }
            return f;
        }

        int uAt(int k) {
            return k >= 0 && k < u.length ? u[k] : 0;
        }

        void loadU(Poly out) {
            out.clear();
            for (int k = 0; k < u.length; k++) {
                out.put(k, u[k]);
            }
        }

        boolean hasTower(int itsKind, int a, int b, int c, int d) {
            return kind == itsKind && u[0] == a && u[1] == b && u[2] == c && u[3] == d;
        }

        void setTower(int itsKind, int a, int b, int c, int d) {
            kind = itsKind;
            u[0] = a;
            u[1] = b;
            u[2] = c;
            u[3] = d;
        }

        int draw() {
            random = (int) ((random * 1103515245L + 12345L) & 0x7fffffffL);
            return random / 65536;
        }
    }

    /** The states before the latest changes. */
    private static final class History {
        final Board[] boards = new Board[UNDOS];
        int size = 0;
        int next = 0;

        History() {
            for (int k = 0; k < boards.length; k++) {
                boards[k] = new Board();
            }
        }

        void push(Board board) {
            if (next >= 0 && next < boards.length) {
                boards[next].become(board);
            }
            next = (next + 1) % UNDOS;
            size = Math.min(size + 1, UNDOS);
        }

        boolean pop(Board board) {
            if (size == 0) {
                return false;
            }
            size--;
            next = (next + UNDOS - 1) % UNDOS;
            if (next >= 0 && next < boards.length) {
                board.become(boards[next]);
            }
            return true;
        }

        void become(History a) {
            for (int k = 0; k < boards.length && k < a.boards.length; k++) {
                boards[k].become(a.boards[k]);
            }
            size = a.size;
            next = a.next;
        }
    }

    /** A row of elements; they are kept as longs that the lane has narrowed. */
    private static final class Sheet {
        static final int MISSING = -1;

        final long[] items = new long[WIDTH];
        int lane = MISSING;
        int size = 0;

        boolean isMissing() {
            return lane == MISSING;
        }

        void create(int itsLane, int n) {
            lane = itsLane;
            size = n;
            Arrays.fill(items, 0L);
        }

        boolean covers(int i, int n) {
            return i >= 0 && n >= 0 && (long) i + n <= size && size <= items.length;
        }

        /** Returns 0, or the error of a use of n elements as of i in a sheet of that lane. */
        int refusal(int itsLane, int i, int n) {
            if (isMissing()) {
                return NULL;
            }
            if (lane != itsLane) {
                return CAST;
            }
            return covers(i, n) ? 0 : INDEX;
        }

        boolean holdsNumbers(int i, int n) {
            for (int k = i; k < i + n; k++) {
                if (k < 0 || k >= items.length || !isNumber(items[k])) {
                    return false;
                }
            }
            return true;
        }

        /** Returns an element that holdsNumbers() has looked at. */
        int number(int i) {
            return i >= 0 && i < items.length ? (int) items[i] : 0;
        }

        void set(int i, long v) {
            if (i < 0 || i >= items.length) {
                return;
            }
            switch (lane) {
                case 0:
                    items[i] = (byte) v;
                    break;
                case 1:
                    items[i] = (short) v;
                    break;
                case 2:
                    items[i] = (int) v;
                    break;
                default:
                    items[i] = v;
                    break;
            }
        }
    }
}
