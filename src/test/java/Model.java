import java.util.ArrayDeque;
import java.util.ArrayList;
import java.util.Arrays;
import java.util.Deque;
import java.util.List;

/**
 * The document once more, for comparison: it makes new arrays freely and takes other ways than the class where
 * there are any (linear equations, determinants, trial division, recursive descent, one number after the other).
 */
final class Model {
    static final int BAD = -1, NOT = -2, FULL = -3, NONE = -4, NULL = -11, CAST = -12, INDEX = -13, SIZE = -14;
    static final int P = 101;

    // ---- numbers and polynomials: rows without zeros at the end

    static int mod(long v) {
        return (int) Math.floorMod(v, (long) P);
    }

    private static final int[] INVERSES = new int[P];

    static {
        for (int k = 1; k < P; k++) {
            for (int j = 1; j < P; j++) {
                INVERSES[k] = k * j % P == 1 ? j : INVERSES[k];
            }
        }
    }

    static int inv(int v) {
        if (v == 0) {
            throw new IllegalStateException("no inverse of 0");
        }
        return INVERSES[v];
    }

    static int[] poly(int... c) {
        int n = c.length;
        while (n > 0 && mod(c[n - 1]) == 0) {
            n--;
        }
        int[] p = new int[n];
        for (int k = 0; k < n; k++) {
            p[k] = mod(c[k]);
        }
        return p;
    }

    static int deg(int[] p) {
        return p.length - 1;
    }

    static int at(int[] p, int k) {
        return k >= 0 && k < p.length ? p[k] : 0;
    }

    static int[] add(int[] a, int[] b, int factor) {
        int[] s = new int[Math.max(a.length, b.length)];
        for (int k = 0; k < s.length; k++) {
            s[k] = mod(at(a, k) + (long) factor * at(b, k));
        }
        return poly(s);
    }

    static int[] mul(int[] a, int[] b) {
        int[] s = new int[a.length + b.length];
        for (int i = 0; i < a.length; i++) {
            for (int j = 0; j < b.length; j++) {
                s[i + j] = mod(s[i + j] + a[i] * b[j]);
            }
        }
        return poly(s);
    }

    static int[] pow(int[] a, int n) {
        return n == 0 ? poly(1) : mul(a, pow(a, n - 1));
    }

    static int[][] divide(int[] a, int[] b) {
        int[] rest = a.clone();
        int[] quotient = new int[Math.max(0, a.length - b.length + 1)];
        for (int k = quotient.length - 1; k >= 0; k--) {
            quotient[k] = mod(rest[k + b.length - 1] * inv(b[b.length - 1]));
            for (int j = 0; j < b.length; j++) {
                rest[k + j] = mod(rest[k + j] - quotient[k] * b[j]);
            }
        }
        return new int[][] {poly(quotient), poly(rest)};
    }

    static int[] monic(int[] a) {
        return a.length == 0 ? a : mul(a, poly(inv(a[a.length - 1])));
    }

    static int[] gcd(int[] a, int[] b) {
        return b.length == 0 ? monic(a) : gcd(b, divide(a, b)[1]);
    }

    static int[] slope(int[] a) {
        int[] s = new int[Math.max(0, a.length - 1)];
        for (int k = 0; k < s.length; k++) {
            s[k] = mod((k + 1) * a[k + 1]);
        }
        return poly(s);
    }

    static int value(int[] a, int x) {
        int sum = 0;
        int power = 1;
        for (int c : a) {
            sum = mod(sum + c * power);
            power = mod(power * x);
        }
        return sum;
    }

    /** The irreducible factors with head 1, each as often as it divides; the degree is at most 4. */
    static List<int[]> factors(int[] p) {
        List<int[]> found = new ArrayList<>();
        int[] rest = monic(p);
        for (int e = 0; e < P; e++) {
            rest = takeOut(rest, poly(e, 1), found);
        }
        for (int e = 0; e < P * P && deg(rest) >= 4; e++) {
            rest = takeOut(rest, poly(e % P, e / P, 1), found);
        }
        if (deg(rest) > 0) {
            found.add(rest);
        }
        return found;
    }

    private static int[] takeOut(int[] p, int[] factor, List<int[]> found) {
        int[] rest = p;
        while (deg(rest) >= deg(factor) && divide(rest, factor)[1].length == 0) {
            found.add(factor);
            rest = divide(rest, factor)[0];
        }
        return rest;
    }

    // ---- fractions

    record Fr(int[] n, int[] d) {
        static final Fr ZERO = of(poly(), poly(1));

        static Fr of(int[] n, int[] d) {
            int[] g = gcd(n, d);
            int[] num = divide(n, g)[0];
            int[] den = divide(d, g)[0];
            int[] scale = poly(inv(den[den.length - 1]));
            return new Fr(mul(num, scale), mul(den, scale));
        }

        Fr plus(Fr b, int factor) {
            return of(add(mul(n, b.d), mul(b.n, d), factor), mul(d, b.d));
        }

        Fr times(Fr b) {
            return of(mul(n, b.n), mul(d, b.d));
        }

        Fr over(Fr b) {
            return of(mul(n, b.d), mul(d, b.n));
        }

        Fr slope() {
            return of(add(mul(Model.slope(n), d), mul(n, Model.slope(d)), -1), mul(d, d));
        }

        boolean isZero() {
            return n.length == 0;
        }

        boolean tooBig() {
            return deg(n) > 6 || deg(d) > 4;
        }

        boolean same(Fr b) {
            return Arrays.equals(n, b.n) && Arrays.equals(d, b.d);
        }

        int[] part(int what) {
            return what == 0 ? n : d;
        }

        String text() {
            return deg(d) == 0 ? text(n) : "(" + text(n) + ")/(" + text(d) + ")";
        }

        private static String text(int[] p) {
            StringBuilder s = new StringBuilder();
            for (int k = deg(p); k >= 0; k--) {
                if (p[k] != 0) {
                    String c = p[k] == 1 && k > 0 ? "" : p[k] + (k > 0 ? "*" : "");
                    s.append(s.length() > 0 ? "+" : "").append(c).append(k > 1 ? "x^" + k : k == 1 ? "x" : "");
                }
            }
            return s.length() == 0 ? "0" : s.toString();
        }
    }

    // ---- splitting by linear equations

    record Split(Fr q, Fr r) { }

    static Split split(Fr f, int[] w) {
        int[] g = gcd(f.d, slope(f.d));
        int[] s = divide(f.d, g)[0];
        // With q = n / g and r = c / s, times g * s: a = n' * s - n * (s * g' / g) + w * n * s + c * g.
        int[] h = divide(mul(s, slope(g)), g)[0];
        int gain = w.length == 0 ? -1 : deg(w);
        int unknownN = Math.max(deg(g), deg(f.n) - deg(f.d) - gain + deg(g) + 1);
        int unknownC = deg(s) + Math.max(0, deg(w));
        List<int[]> columns = new ArrayList<>();
        for (int k = 0; k < unknownN; k++) {
            int[] n = mul(pow(poly(0, 1), k), poly(1));
            columns.add(add(add(mul(slope(n), s), mul(n, h), -1), mul(w, mul(n, s)), 1));
        }
        for (int k = 0; k < unknownC; k++) {
            columns.add(mul(pow(poly(0, 1), k), g));
        }
        int[] solution = solve(columns, f.n);
        int[] n = poly(Arrays.copyOfRange(solution, 0, unknownN));
        int[] c = poly(Arrays.copyOfRange(solution, unknownN, unknownN + unknownC));
        if (w.length == 0) {
            n = add(n, g, -at(divide(n, g)[0], 0));
        }
        return new Split(Fr.of(n, g), Fr.of(c, s));
    }

    /** Solves the equations that the sum of unknowns times columns is the target; what is free is 0. */
    static int[] solve(List<int[]> columns, int[] target) {
        int rows = target.length;
        for (int[] column : columns) {
            rows = Math.max(rows, column.length);
        }
        int n = columns.size();
        int[][] m = new int[rows][n + 1];
        for (int k = 0; k < rows; k++) {
            for (int j = 0; j < n; j++) {
                m[k][j] = at(columns.get(j), k);
            }
            m[k][n] = at(target, k);
        }
        int[] pivotRow = new int[n];
        Arrays.fill(pivotRow, -1);
        int used = 0;
        for (int j = 0; j < n; j++) {
            int pivot = used;
            while (pivot < rows && m[pivot][j] == 0) {
                pivot++;
            }
            if (pivot == rows) {
                continue;
            }
            int[] row = m[pivot];
            m[pivot] = m[used];
            m[used] = row;
            int scale = inv(row[j]);
            for (int k = 0; k <= n; k++) {
                row[k] = mod(row[k] * scale);
            }
            for (int other = 0; other < rows; other++) {
                int factor = m[other][j];
                for (int k = 0; other != used && factor != 0 && k <= n; k++) {
                    m[other][k] = mod(m[other][k] - factor * row[k]);
                }
            }
            pivotRow[j] = used++;
        }
        for (int k = used; k < rows; k++) {
            if (m[k][n] != 0) {
                throw new IllegalStateException("no solution");
            }
        }
        int[] solution = new int[n];
        for (int j = 0; j < n; j++) {
            solution[j] = pivotRow[j] < 0 ? 0 : m[pivotRow[j]][n];
        }
        return solution;
    }

    // ---- residues by determinants

    static int determinant(int[][] given) {
        int n = given.length;
        int[][] m = new int[n][];
        for (int k = 0; k < n; k++) {
            m[k] = given[k].clone();
        }
        int result = 1;
        for (int j = 0; j < n; j++) {
            int pivot = j;
            while (pivot < n && m[pivot][j] == 0) {
                pivot++;
            }
            if (pivot == n) {
                return 0;
            }
            if (pivot != j) {
                int[] row = m[pivot];
                m[pivot] = m[j];
                m[j] = row;
                result = mod(-result);
            }
            result = mod(result * m[j][j]);
            int scale = inv(m[j][j]);
            for (int k = j + 1; k < n; k++) {
                int factor = mod(m[k][j] * scale);
                for (int i = j; i < n; i++) {
                    m[k][i] = mod(m[k][i] - factor * m[j][i]);
                }
            }
        }
        return result;
    }

    /** The determinant of Sylvester, where a counts as of degree m and b as of degree n. */
    static int resultant(int[] a, int m, int[] b, int n) {
        int[][] rows = new int[m + n][m + n];
        for (int k = 0; k < n; k++) {
            for (int j = 0; j <= m; j++) {
                rows[k][k + j] = at(a, m - j);
            }
        }
        for (int k = 0; k < m; k++) {
            for (int j = 0; j <= n; j++) {
                rows[n + k][k + j] = at(b, n - j);
            }
        }
        return determinant(rows);
    }

    static int[] residues(Fr rest) {
        int n = deg(rest.d);
        if (n == 0) {
            return poly(1);
        }
        int[] sum = poly();
        for (int z = 0; z <= n; z++) {
            int[] basis = poly(resultant(add(rest.n, slope(rest.d), -z), n - 1, rest.d, n));
            for (int y = 0; y <= n; y++) {
                if (y != z) {
                    basis = mul(mul(basis, poly(-y, 1)), poly(inv(mod(z - y))));
                }
            }
            sum = add(sum, basis, 1);
        }
        return monic(sum);
    }

    // ---- the state

    private static final class State {
        final Fr[][] terms = new Fr[3][5];
        int kind = 0;
        int[] u = {0, 0, 0, 0};
        long random = 1;

        State() {
            for (Fr[] row : terms) {
                Arrays.fill(row, Fr.ZERO);
            }
        }

        State(State a) {
            for (int f = 0; f < 3; f++) {
                terms[f] = a.terms[f].clone();
            }
            kind = a.kind;
            u = a.u.clone();
            random = a.random;
        }

        int draw() {
            random = (random * 1103515245L + 12345L) % (1L << 31);
            return (int) (random / 65536);
        }

        boolean fits(Fr[] f) {
            for (int i = -2; i <= 2; i++) {
                boolean allowed = kind == 1 || i == 0 || kind == 2 && i > 0;
                if (!allowed && !f[i + 2].isZero()) {
                    return false;
                }
            }
            return true;
        }
    }

    private State now = new State();
    private List<State> past = new ArrayList<>();
    private State savedNow = null;
    private List<State> savedPast = null;
    private final StringBuilder tape = new StringBuilder();
    private final Object[] sheets = new Object[4];

    private void change() {
        past.add(new State(now));
        if (past.size() > 6) {
            past.remove(0);
        }
    }

    private static boolean in(long v, long a, long b) {
        return v >= a && v <= b;
    }

    private static boolean term(int f, int i) {
        return in(f, 0, 2) && in(i, -2, 2);
    }

    private static int set(Fr[] f) {
        int set = 0;
        for (int k = 0; k < 5; k++) {
            set += f[k].isZero() ? 0 : 1 << k;
        }
        return set;
    }

    // ---- functions

    int coef(int f, int i, int what, int k) {
        return !term(f, i) || !in(what, 0, 1) || k < 0 ? BAD : at(now.terms[f][i + 2].part(what), k);
    }

    int letter(int f, int i, int k) {
        if (!term(f, i) || k < 0) {
            return BAD;
        }
        String text = now.terms[f][i + 2].text();
        return k < text.length() ? text.charAt(k) : NONE;
    }

    int value(int f, int i, int x) {
        return !term(f, i) || !in(x, 0, 100) ? BAD : value(now.terms[f][i + 2], x);
    }

    private static int value(Fr f, int x) {
        return value(f.d, x) == 0 ? NONE : mod(value(f.n, x) * inv(value(f.d, x)));
    }

    int told(int f, int what) {
        if (!in(f, 0, 2) || !in(what, 0, 3)) {
            return BAD;
        }
        if (what == 0) {
            return set(now.terms[f]);
        }
        if (what == 1) {
            return (int) Arrays.stream(now.terms[f]).map(t -> Arrays.toString(t.d)).distinct().count();
        }
        if (what == 3) {
            return now.fits(now.terms[f]) ? 1 : 0;
        }
        int g = 0;
        while (!same(now.terms[g], now.terms[f])) {
            g++;
        }
        return g;
    }

    private static boolean same(Fr[] f, Fr[] g) {
        for (int k = 0; k < 5; k++) {
            if (!f[k].same(g[k])) {
                return false;
            }
        }
        return true;
    }

    int count(int what) {
        if (!in(what, 0, 5)) {
            return BAD;
        }
        return what == 0 ? now.kind : what == 5 ? past.size() : now.u[what - 1];
    }

    int type(int letter) {
        if (!in(letter, 32, 126)) {
            return BAD;
        }
        if (tape.length() == 90) {
            return FULL;
        }
        tape.append((char) letter);
        return tape.length();
    }

    int read(int f, int i) {
        if (!term(f, i)) {
            return BAD;
        }
        Text text = new Text(tape.toString());
        tape.setLength(0);
        int fault = text.fault();
        if (fault >= 0) {
            return -20 - fault;
        }
        Fr value;
        try {
            value = text.evaluate();
        } catch (Refused e) {
            return e.code;
        }
        change();
        now.terms[f][i + 2] = value;
        return value.text().length();
    }

    int tower(int kind, int a, int b, int c, int d) {
        int[] u = {a, b, c, d};
        boolean bad = !in(kind, 0, 2);
        for (int v : u) {
            bad |= !in(v, 0, 100) || kind == 0 && v != 0;
        }
        if (bad) {
            return BAD;
        }
        int degree = deg(poly(u));
        if (kind != 0 && degree < 1 || kind == now.kind && Arrays.equals(u, now.u)) {
            return NOT;
        }
        change();
        now.kind = kind;
        now.u = u;
        return kind == 0 ? 0 : degree;
    }

    int join(int f, int act, int g, int h) {
        if (!in(f, 0, 2) || !in(act, 0, 3) || !in(g, 0, 2) || !in(h, 0, 2)) {
            return BAD;
        }
        Fr[] a = now.terms[g];
        Fr[] b = now.terms[h];
        if (act == 3 && Integer.bitCount(set(b)) != 1) {
            return NOT;
        }
        Fr[] wide = new Fr[13];
        Arrays.fill(wide, Fr.ZERO);
        for (int i = -2; i <= 2; i++) {
            if (act < 2) {
                wide[i + 6] = a[i + 2].plus(b[i + 2], act == 0 ? 1 : -1);
            }
            for (int j = -2; j <= 2 && act >= 2; j++) {
                int k = act == 2 ? i + j : i - j;
                if (act == 2 || !b[j + 2].isZero()) {
                    wide[k + 6] = wide[k + 6].plus(act == 2 ? a[i + 2].times(b[j + 2]) : a[i + 2].over(b[j + 2]), 1);
                }
            }
        }
        for (int k = -6; k <= 6; k++) {
            if (in(k, -2, 2) ? wide[k + 6].tooBig() : !wide[k + 6].isZero()) {
                return FULL;
            }
        }
        change();
        now.terms[f] = Arrays.copyOfRange(wide, 4, 9);
        return set(now.terms[f]);
    }

    private Fr logSlope() {
        return Fr.of(slope(poly(now.u)), poly(now.u));
    }

    int derive(int f, int g) {
        if (!in(f, 0, 2) || !in(g, 0, 2)) {
            return BAD;
        }
        Fr[] a = now.terms[g];
        if (!now.fits(a)) {
            return NOT;
        }
        Fr[] result = new Fr[5];
        for (int i = -2; i <= 2; i++) {
            result[i + 2] = a[i + 2].slope();
            if (now.kind == 1) {
                result[i + 2] = result[i + 2].plus(Fr.of(mul(poly(i), slope(poly(now.u))), poly(1)).times(a[i + 2]), 1);
            }
            if (now.kind == 2 && in(i, 0, 1)) {
                result[i + 2] = result[i + 2].plus(a[i + 3].times(logSlope()), i + 1);
            }
        }
        for (Fr r : result) {
            if (r.tooBig()) {
                return FULL;
            }
        }
        change();
        now.terms[f] = result;
        return set(result);
    }

    int drift(int n) {
        if (!in(n, 1, 40)) {
            return BAD;
        }
        for (int turn = 0; turn < n; turn++) {
            change();
            int v = now.draw();
            int w = now.draw();
            int z = now.draw();
            int[] numerator = poly(w % 101, w / 101 % 101, w / 10201);
            now.terms[v % 3][v / 4 % 5] = Fr.of(numerator, pow(poly(z / 4 % 101, 1), z % 4));
        }
        int set = 0;
        for (int f = 0; f < 3; f++) {
            set += now.fits(now.terms[f]) ? 1 << f : 0;
        }
        return set;
    }

    int undo() {
        if (past.isEmpty()) {
            return NONE;
        }
        now = past.remove(past.size() - 1);
        return past.size();
    }

    int seed(int v) {
        if (v < 0) {
            return BAD;
        }
        int old = (int) now.random;
        now.random = v;
        return old;
    }

    // ---- integrals

    int part(int f, int i, int m, int k) {
        if (!term(f, i) || !in(m, 1, 4) || k < 0) {
            return BAD;
        }
        List<int[]> all = factors(now.terms[f][i + 2].d);
        int[] product = poly(1);
        for (int a = 0; a < all.size(); a++) {
            int[] factor = all.get(a);
            boolean first = all.subList(0, a).stream().noneMatch(b -> Arrays.equals(b, factor));
            if (first && all.stream().filter(b -> Arrays.equals(b, factor)).count() == m) {
                product = mul(product, factor);
            }
        }
        return at(product, k);
    }

    int split(int f, int i, int what, int k) {
        if (!term(f, i) || !in(what, 0, 3) || k < 0) {
            return BAD;
        }
        Split s = split(now.terms[f][i + 2], poly());
        return at((what < 2 ? s.q : s.r).part(what % 2), k);
    }

    /** Parts, rests and obstacle of a function that fits; its terms may exceed the limits. */
    private final class Study {
        final Fr[] q = new Fr[6];
        final Fr[] r = new Fr[5];
        int obstacle = -9;

        Study(Fr[] f) {
            Arrays.fill(q, Fr.ZERO);
            Arrays.fill(r, Fr.ZERO);
            for (int i = 2; i >= -2; i--) {
                Fr given = f[i + 2];
                int[] w = poly();
                if (now.kind == 1) {
                    w = mul(poly(i), slope(poly(now.u)));
                }
                if (now.kind == 2 && i >= 0) {
                    given = given.plus(q[i + 3].times(logSlope()), -(i + 1));
                }
                Split s = split(given, w);
                q[i + 2] = s.q;
                r[i + 2] = s.r;
            }
            int[] c = {0, 0, 0};
            for (int i = -2; i <= 2; i++) {
                int number = now.kind == 2 && i > 0 ? multiple(r[i + 2]) : r[i + 2].isZero() ? 0 : -1;
                if (i != 0 && number < 0) {
                    obstacle = i;
                } else if (i > 0) {
                    c[i] = number;
                }
            }
            for (int i = 1; i <= 2 && whole() && now.kind == 2; i++) {
                q[i + 3] = q[i + 3].plus(Fr.of(poly(c[i] * inv(i + 1)), poly(1)), 1);
            }
        }

        boolean whole() {
            return obstacle == -9;
        }

        private int multiple(Fr rest) {
            for (int c = 0; c < P; c++) {
                if (rest.same(Fr.of(poly(c), poly(1)).times(logSlope()))) {
                    return c;
                }
            }
            return -1;
        }

        List<int[]> logarithms() {
            List<int[]> found = new ArrayList<>();
            int[] all = residues(r[2]);
            for (int c = 0; c < P; c++) {
                if (value(all, c) == 0) {
                    int[] v = gcd(add(r[2].n, slope(r[2].d), -c), r[2].d);
                    found.add(add(mul(v, poly(0, 1)), poly(c), 1));
                }
            }
            return found;
        }
    }

    int asked(int f, int what) {
        if (!in(f, 0, 2) || !in(what, 0, 4)) {
            return BAD;
        }
        if (!now.fits(now.terms[f])) {
            return NOT;
        }
        Study s = new Study(now.terms[f]);
        switch (what) {
            case 0:
                return s.whole() ? 1 : 0;
            case 1:
                return s.whole() ? NONE : s.obstacle + 2;
            case 2:
                return s.logarithms().size();
            case 3:
                return deg(s.r[2].d) - s.logarithms().stream().mapToInt(v -> deg(v) - 1).sum();
            default:
                return deg(residues(s.r[2]));
        }
    }

    int integral(int f, int i, int what, int k) {
        if (!in(f, 0, 2) || !in(i, -2, 3) || !in(what, 0, 1) || k < 0) {
            return BAD;
        }
        if (!now.fits(now.terms[f])) {
            return NOT;
        }
        Study s = new Study(now.terms[f]);
        return s.whole() ? at(s.q[i + 2].part(what), k) : NONE;
    }

    int left(int f, int i, int what, int k) {
        if (!term(f, i) || !in(what, 0, 1) || k < 0) {
            return BAD;
        }
        return now.fits(now.terms[f]) ? at(new Study(now.terms[f]).r[i + 2].part(what), k) : NOT;
    }

    int residue(int f, int k) {
        if (!in(f, 0, 2) || k < 0) {
            return BAD;
        }
        return now.fits(now.terms[f]) ? at(residues(new Study(now.terms[f]).r[2]), k) : NOT;
    }

    int log(int f, int j, int what, int k) {
        if (!in(f, 0, 2) || j < 0 || !in(what, 0, 1) || k < 0) {
            return BAD;
        }
        if (!now.fits(now.terms[f])) {
            return NOT;
        }
        List<int[]> all = new Study(now.terms[f]).logarithms();
        if (j >= all.size()) {
            return NONE;
        }
        return what == 0 ? all.get(j)[0] : k == Integer.MAX_VALUE ? 0 : at(all.get(j), k + 1);
    }

    int pencil(int f, int g, int what) {
        if (!in(f, 0, 2) || !in(g, 0, 2) || !in(what, 0, 1)) {
            return BAD;
        }
        if (!now.fits(now.terms[f]) || !now.fits(now.terms[g])) {
            return NOT;
        }
        int found = 0;
        int least = NONE;
        for (int c = 0; c < P; c++) {
            Fr[] sum = new Fr[5];
            for (int k = 0; k < 5; k++) {
                sum[k] = now.terms[f][k].plus(now.terms[g][k], c);
            }
            if (new Study(sum).whole()) {
                found++;
                least = least == NONE ? c : least;
            }
        }
        return what == 0 ? found : least;
    }

    int image() {
        savedNow = new State(now);
        savedPast = new ArrayList<>();
        past.forEach(s -> savedPast.add(new State(s)));
        return 1;
    }

    int restore() {
        if (savedNow == null) {
            return NONE;
        }
        now = new State(savedNow);
        past = new ArrayList<>();
        savedPast.forEach(s -> past.add(new State(s)));
        return 1;
    }

    // ---- sheets

    private static int lane(Object sheet) {
        return sheet instanceof byte[] ? 0 : sheet instanceof short[] ? 1 : sheet instanceof int[] ? 2 : 3;
    }

    private static int length(Object sheet) {
        return java.lang.reflect.Array.getLength(sheet);
    }

    private int refusal(int sheet, int lane, long i, long n) {
        if (sheets[sheet] == null) {
            return NULL;
        }
        if (lane(sheets[sheet]) != lane) {
            return CAST;
        }
        return i < 0 || i + n > length(sheets[sheet]) ? INDEX : 0;
    }

    private long element(int sheet, int i) {
        return java.lang.reflect.Array.getLong(sheets[sheet], i);
    }

    private void put(int sheet, int i, long v) {
        Object s = sheets[sheet];
        if (s instanceof byte[] b) {
            b[i] = (byte) v;
        } else if (s instanceof short[] h) {
            h[i] = (short) v;
        } else if (s instanceof int[] w) {
            w[i] = (int) v;
        } else {
            ((long[]) s)[i] = v;
        }
    }

    private boolean numbers(int sheet, int i, int n) {
        for (int k = 0; k < n; k++) {
            if (!in(element(sheet, i + k), 0, 100)) {
                return false;
            }
        }
        return true;
    }

    int seen(int sheet, int lane, int i, int n) {
        if (!in(sheet, 0, 3) || !in(lane, 0, 3) || !in(n, 1, 8)) {
            return BAD;
        }
        int error = refusal(sheet, lane, i, 2L * n);
        if (error != 0) {
            return error;
        }
        if (!numbers(sheet, i, 2 * n)) {
            return NOT;
        }
        int set = 0;
        for (int f = 0; f < 3; f++) {
            for (int k = 0; k < 5; k++) {
                boolean all = true;
                for (int p = 0; p < n; p++) {
                    all &= value(now.terms[f][k], (int) element(sheet, i + 2 * p)) == element(sheet, i + 2 * p + 1);
                }
                set += all ? 1 << 5 * f + k : 0;
            }
        }
        return set;
    }

    int lay(int f, int i, int sheet, int lane, int at) {
        if (!term(f, i) || !in(sheet, 0, 3) || !in(lane, 0, 3)) {
            return BAD;
        }
        int error = refusal(sheet, lane, at, 12);
        if (error != 0) {
            return error;
        }
        if (!numbers(sheet, at, 12)) {
            return NOT;
        }
        int[] cells = new int[12];
        for (int k = 0; k < 12; k++) {
            cells[k] = (int) element(sheet, at + k);
        }
        int[] below = poly(Arrays.copyOfRange(cells, 7, 12));
        if (below.length == 0) {
            return NOT;
        }
        change();
        now.terms[f][i + 2] = Fr.of(poly(Arrays.copyOf(cells, 7)), below);
        return 1;
    }

    int film(int f, int i, int sheet, int lane, int at) {
        if (!term(f, i) || !in(sheet, 0, 3) || !in(lane, 0, 3)) {
            return BAD;
        }
        int error = refusal(sheet, lane, at, 12);
        if (error != 0) {
            return error;
        }
        Fr t = now.terms[f][i + 2];
        for (int k = 0; k < 12; k++) {
            put(sheet, at + k, k < 7 ? at(t.n, k) : at(t.d, k - 7));
        }
        return 12;
    }

    int sheet(int sheet, int lane, int n) {
        if (!in(sheet, 0, 3) || !in(lane, 0, 3) || n > 24) {
            return BAD;
        }
        if (n < 0) {
            return SIZE;
        }
        sheets[sheet] = lane == 0 ? new byte[n] : lane == 1 ? new short[n] : lane == 2 ? new int[n] : new long[n];
        return n;
    }

    int drop(int sheet) {
        if (!in(sheet, 0, 3)) {
            return BAD;
        }
        if (sheets[sheet] == null) {
            return NULL;
        }
        int n = length(sheets[sheet]);
        sheets[sheet] = null;
        return n;
    }

    int item(int sheet, int lane, int i, long v) {
        if (!in(sheet, 0, 3) || !in(lane, 0, 3)) {
            return BAD;
        }
        int error = refusal(sheet, lane, i, 1);
        if (error != 0) {
            return error;
        }
        put(sheet, i, v);
        return 1;
    }

    int copy(int from, int i, int to, int j, int n) {
        if (!in(from, 0, 3) || !in(to, 0, 3)) {
            return BAD;
        }
        if (sheets[from] == null || sheets[to] == null) {
            return NULL;
        }
        if (lane(sheets[from]) != lane(sheets[to])) {
            return CAST;
        }
        if (i < 0 || j < 0 || n < 0 || (long) i + n > length(sheets[from]) || (long) j + n > length(sheets[to])) {
            return INDEX;
        }
        Deque<Long> held = new ArrayDeque<>();
        for (int k = 0; k < n; k++) {
            held.add(element(from, i + k));
        }
        for (int k = 0; k < n; k++) {
            put(to, j + k, held.remove());
        }
        return n;
    }

    // ---- texts

    private static final class Refused extends RuntimeException {
        private static final long serialVersionUID = 1L;
        final int code;

        Refused(int code) {
            this.code = code;
        }
    }

    /** Two passes of recursive descent: the first only looks for a fault, the second one evaluates. */
    private static final class Text {
        private static final class Fault extends RuntimeException {
            private static final long serialVersionUID = 1L;
        }

        final String s;
        int at = 0;
        int open = 0;
        boolean evaluating = false;

        Text(String s) {
            this.s = s;
        }

        int fault() {
            try {
                sum();
                if (look() != 0) {
                    throw new Fault();
                }
                return -1;
            } catch (Fault e) {
                return at;
            }
        }

        Fr evaluate() {
            at = 0;
            open = 0;
            evaluating = true;
            return sum();
        }

        private char look() {
            while (at < s.length() && s.charAt(at) == ' ') {
                at++;
            }
            return at < s.length() ? s.charAt(at) : 0;
        }

        private Fr limited(Fr f) {
            if (f.tooBig()) {
                throw new Refused(FULL);
            }
            return f;
        }

        private Fr sum() {
            Fr left = product();
            while (look() == '+' || look() == '-') {
                int sign = s.charAt(at++) == '+' ? 1 : -1;
                Fr right = product();
                left = evaluating ? limited(left.plus(right, sign)) : left;
            }
            return left;
        }

        private Fr product() {
            Fr left = power();
            while (look() == '*' || look() == '/') {
                boolean over = s.charAt(at++) == '/';
                Fr right = power();
                if (evaluating && over && right.isZero()) {
                    throw new Refused(NOT);
                }
                if (evaluating) {
                    left = limited(over ? left.over(right) : left.times(right));
                }
            }
            return left;
        }

        private Fr power() {
            Fr atom = atom();
            if (look() != '^') {
                return atom;
            }
            at++;
            if (look() < '0' || look() > '8') {
                throw new Fault();
            }
            int figure = s.charAt(at++) - '0';
            Fr result = Fr.of(poly(1), poly(1));
            for (int k = 0; k < figure && evaluating; k++) {
                result = limited(result.times(atom));
            }
            return result;
        }

        private Fr atom() {
            char c = look();
            if (c == 'x') {
                at++;
                return Fr.of(poly(0, 1), poly(1));
            }
            if (c == '(' && open < 6) {
                at++;
                open++;
                Fr inner = sum();
                if (look() != ')') {
                    throw new Fault();
                }
                at++;
                open--;
                return inner;
            }
            if (c < '0' || c > '9') {
                throw new Fault();
            }
            int start = at;
            while (at < s.length() && at < start + 3 && s.charAt(at) >= '0' && s.charAt(at) <= '9') {
                at++;
            }
            return Fr.of(poly(Integer.parseInt(s.substring(start, at))), poly(1));
        }
    }
}
