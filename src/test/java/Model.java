import java.math.BigInteger;
import java.util.ArrayList;
import java.util.Arrays;
import java.util.HashSet;
import java.util.List;

/**
 * The document once more, in its plainest words and by other ways than the class goes: determinants
 * by rows, ranks by determinants, points by Lagrange, roots by trial.
 */
public final class Model {
    private static final int NONE = -1;

    private final int bits;
    private final int size;
    private int poly;
    private int generator;
    private final int[] up;
    private final int[] down;
    private List<Integer> row = new ArrayList<>();
    private final List<int[][]> matrices = new ArrayList<>();
    private final List<int[]> polynomials = new ArrayList<>();
    private List<Integer> span = List.of();

    public Model(int bits, int poly) {
        this.bits = bits == 16 ? 16 : 8;
        size = 1 << this.bits;
        this.poly = poly & (size - 1);
        while (splits((1L << this.bits) | this.poly)) {
            this.poly = (this.poly + 1) % size;
        }
        up = new int[2 * size];
        down = new int[size];
        generator = 2;
        while (!fillLogs()) {
            generator++;
        }
    }

    private boolean splits(long full) {
        for (long d = 2; d < 2L << (bits / 2); d++) {
            long rest = full;
            for (int k = bits; k >= 0; k--) {
                if (rest != 0 && Long.highestOneBit(rest) >= Long.highestOneBit(d)) {
                    rest ^= d * (Long.highestOneBit(rest) / Long.highestOneBit(d));
                }
            }
            if (rest == 0) {
                return true;
            }
        }
        return false;
    }

    private int bitProduct(int a, int b) {
        int product = 0;
        for (int k = bits - 1; k >= 0; k--) {
            product <<= 1;
            if (product >= size) {
                product = (product - size) ^ poly;
            }
            product ^= (b >> k & 1) * a;
        }
        return product;
    }

    /** Whether the generator's powers are all members but 0. */
    private boolean fillLogs() {
        int power = 1;
        for (int n = 0; n < up.length; n++) {
            up[n] = power;
            if (n < size - 1) {
                down[power] = n;
                if (n > 0 && power == 1) {
                    return false;
                }
            }
            power = bitProduct(power, generator);
        }
        return true;
    }

    private int mul(int a, int b) {
        return a == 0 || b == 0 ? 0 : up[down[a] + down[b]];
    }

    private int inv(int a) {
        return up[size - 1 - down[a]];
    }

    private void member(int a) {
        if (a < 0 || a >= size) {
            throw new IllegalArgumentException();
        }
    }

    public int poly() {
        return poly;
    }

    public int generator() {
        return generator;
    }

    public int product(int a, int b) {
        member(a);
        member(b);
        return bitProduct(a, b);
    }

    public int quotient(int a, int b) {
        member(a);
        member(b);
        if (b == 0) {
            throw new ArithmeticException();
        }
        return mul(a, inv(b));
    }

    public int power(int a, long n) {
        member(a);
        if (a == 0 && n < 0) {
            throw new ArithmeticException();
        }
        BigInteger steps = BigInteger.valueOf(n).abs();
        int base = n < 0 ? inv(a) : a;
        int result = 1;
        for (int k = steps.bitLength() - 1; k >= 0; k--) {
            result = bitProduct(result, result);
            if (steps.testBit(k)) {
                result = bitProduct(result, base);
            }
        }
        return result;
    }

    public int log(int a) {
        member(a);
        if (a == 0) {
            throw new ArrayIndexOutOfBoundsException();
        }
        int n = 0;
        while (up[n] != a) {
            n++;
        }
        return n;
    }

    public int order(int a) {
        member(a);
        if (a == 0) {
            return 0;
        }
        int n = 1;
        for (int power = a; power != 1; power = mul(power, a)) {
            n++;
        }
        return n;
    }

    public int put(int v) {
        member(v);
        if (row.size() == 130) {
            throw new UnsupportedOperationException();
        }
        row.add(v);
        return row.size();
    }

    public int row(int k) {
        if (k < 0) {
            throw new IndexOutOfBoundsException();
        }
        return k < row.size() ? row.get(k) : NONE;
    }

    public int drop() {
        int had = row.size();
        row = new ArrayList<>();
        return had;
    }

    private int[][] at(int matrix) {
        if (matrix < 0 || matrix >= matrices.size()) {
            throw new IndexOutOfBoundsException();
        }
        return matrices.get(matrix);
    }

    private int keep(int[][] matrix) {
        if (matrices.size() == 40) {
            throw new UnsupportedOperationException();
        }
        matrices.add(matrix);
        return matrices.size() - 1;
    }

    private static int[][] zeros(int rows, int columns) {
        if (rows < 1 || rows > 8 || columns < 1 || columns > 8) {
            throw new IllegalArgumentException();
        }
        return new int[rows][columns];
    }

    private static void state(boolean fits) {
        if (!fits) {
            throw new IllegalStateException();
        }
    }

    public int matrix(int rows, int columns) {
        return keep(zeros(rows, columns));
    }

    public int powers(int rows, int columns) {
        int[][] made = zeros(rows, columns);
        state(row.size() == rows && new HashSet<>(row).size() == rows);
        for (int i = 0; i < rows; i++) {
            for (int j = 0; j < columns; j++) {
                made[i][j] = power(row.get(i), j);
            }
        }
        int number = keep(made);
        drop();
        return number;
    }

    public int sums(int rows, int columns) {
        int[][] made = zeros(rows, columns);
        state(row.size() == rows + columns && new HashSet<>(row).size() == rows + columns);
        for (int i = 0; i < rows; i++) {
            for (int j = 0; j < columns; j++) {
                made[i][j] = inv(row.get(i) ^ row.get(rows + j));
            }
        }
        int number = keep(made);
        drop();
        return number;
    }

    public int size(int matrix, int what) {
        int[][] m = at(matrix);
        if (what < 0 || what > 1) {
            throw new IllegalArgumentException();
        }
        return what == 0 ? m.length : m[0].length;
    }

    public int cell(int matrix, int i, int j) {
        int[][] m = at(matrix);
        if (i < 0 || i >= m.length || j < 0 || j >= m[0].length) {
            throw new IndexOutOfBoundsException();
        }
        return m[i][j];
    }

    public int set(int matrix, int i, int j, int v) {
        int was = cell(matrix, i, j);
        member(v);
        at(matrix)[i][j] = v;
        return was;
    }

    public int times(int a, int b) {
        int[][] left = at(a);
        int[][] right = at(b);
        state(left[0].length == right.length);
        int[][] made = new int[left.length][right[0].length];
        for (int i = 0; i < made.length; i++) {
            for (int j = 0; j < made[0].length; j++) {
                for (int k = 0; k < right.length; k++) {
                    made[i][j] ^= mul(left[i][k], right[k][j]);
                }
            }
        }
        return keep(made);
    }

    /** The determinant of the chosen rows and columns, by the lowest row. */
    private int chosen(int[][] m, int rows, int columns) {
        if (rows == 0) {
            return 1;
        }
        int i = Integer.numberOfTrailingZeros(rows);
        int sum = 0;
        for (int j = 0; j < m[0].length; j++) {
            if ((columns >> j & 1) != 0 && m[i][j] != 0) {
                sum ^= mul(m[i][j], chosen(m, rows & ~(1 << i), columns & ~(1 << j)));
            }
        }
        return sum;
    }

    private static int all(int count) {
        return (1 << count) - 1;
    }

    public int invert(int matrix) {
        int[][] m = at(matrix);
        int n = m.length;
        state(n == m[0].length);
        if (matrices.size() == 40) {
            throw new UnsupportedOperationException();
        }
        int determinant = chosen(m, all(n), all(n));
        if (determinant == 0) {
            return NONE;
        }
        int[][] made = new int[n][n];
        for (int i = 0; i < n; i++) {
            for (int j = 0; j < n; j++) {
                made[i][j] = mul(chosen(m, all(n) & ~(1 << j), all(n) & ~(1 << i)), inv(determinant));
            }
        }
        return keep(made);
    }

    /** The most rows and columns with a determinant that is not 0: the rows' bits, the columns' above them. */
    private int greatest(int[][] m) {
        int best = 0;
        for (int rows = 1; rows <= all(m.length); rows++) {
            for (int columns = 1; columns <= all(m[0].length); columns++) {
                int count = Integer.bitCount(rows);
                if (count == Integer.bitCount(columns) && count > Integer.bitCount(best & 255)
                        && chosen(m, rows, columns) != 0) {
                    best = rows | columns << 8;
                }
            }
        }
        return best;
    }

    public int rank(int matrix) {
        return Integer.bitCount(greatest(at(matrix)) & 255);
    }

    public int determinant(int matrix) {
        int[][] m = at(matrix);
        state(m.length == m[0].length);
        return chosen(m, all(m.length), all(m.length));
    }

    public int singular(int matrix) {
        int[][] m = at(matrix);
        int zeros = 0;
        for (int rows = 1; rows <= all(m.length); rows++) {
            for (int columns = 1; columns <= all(m[0].length); columns++) {
                if (Integer.bitCount(rows) == Integer.bitCount(columns) && chosen(m, rows, columns) == 0) {
                    zeros++;
                }
            }
        }
        return zeros;
    }

    private static int[][] columnsOf(int[][] m, List<Integer> which) {
        int[][] made = new int[m.length][which.size()];
        for (int i = 0; i < m.length; i++) {
            for (int j = 0; j < which.size(); j++) {
                made[i][j] = m[i][which.get(j)];
            }
        }
        return made;
    }

    private int rankOf(int[][] m) {
        return m[0].length == 0 ? 0 : Integer.bitCount(greatest(m) & 255);
    }

    /** By Cramer's rule, with the columns that none ahead make and as many rows. */
    public int solve(int matrix) {
        int[][] m = at(matrix);
        state(row.size() == m.length);
        List<Integer> kept = new ArrayList<>();
        for (int j = 0; j < m[0].length; j++) {
            List<Integer> more = new ArrayList<>(kept);
            more.add(j);
            if (rankOf(columnsOf(m, more)) == more.size()) {
                kept = more;
            }
        }
        int[] b = row.stream().mapToInt(v -> v).toArray();
        int[][] core = columnsOf(m, kept);
        int[][] wide = new int[m.length][];
        for (int i = 0; i < m.length; i++) {
            wide[i] = Arrays.copyOf(core[i], kept.size() + 1);
            wide[i][kept.size()] = b[i];
        }
        drop();
        if (rankOf(wide) > kept.size()) {
            return NONE;
        }
        int[] x = new int[m[0].length];
        int rows = kept.isEmpty() ? 0 : greatest(core) & 255;
        for (int k = 0; k < kept.size(); k++) {
            int[][] changed = new int[m.length][];
            for (int i = 0; i < m.length; i++) {
                changed[i] = core[i].clone();
                changed[i][k] = b[i];
            }
            int below = chosen(core, rows, all(kept.size()));
            x[kept.get(k)] = mul(chosen(changed, rows, all(kept.size())), inv(below));
        }
        for (int member : x) {
            row.add(member);
        }
        return x.length - kept.size();
    }

    private int[] polynomialAt(int p) {
        if (p < 0 || p >= polynomials.size()) {
            throw new IndexOutOfBoundsException();
        }
        return polynomials.get(p);
    }

    /** Without zeros at its end. */
    private static int[] trimmed(int[] f) {
        int n = f.length;
        while (n > 0 && f[n - 1] == 0) {
            n--;
        }
        return Arrays.copyOf(f, n);
    }

    private int keep(int[] f) {
        int[] kept = trimmed(f);
        if (polynomials.size() == 40 || kept.length > 65) {
            throw new UnsupportedOperationException();
        }
        polynomials.add(kept);
        return polynomials.size() - 1;
    }

    private int[] sum(int[] f, int[] g) {
        int[] made = Arrays.copyOf(f, Math.max(f.length, g.length));
        for (int k = 0; k < g.length; k++) {
            made[k] ^= g[k];
        }
        return trimmed(made);
    }

    private int[] mul(int[] f, int[] g) {
        int[] made = new int[f.length + g.length];
        for (int i = 0; i < f.length; i++) {
            for (int j = 0; j < g.length; j++) {
                made[i + j] ^= mul(f[i], g[j]);
            }
        }
        return trimmed(made);
    }

    /** The quotient and the rest. */
    private int[][] division(int[] f, int[] g) {
        int[] rest = f.clone();
        int[] quotient = new int[f.length];
        for (int k = f.length - g.length; k >= 0; k--) {
            quotient[k] = mul(rest[k + g.length - 1], inv(g[g.length - 1]));
            for (int j = 0; j < g.length; j++) {
                rest[k + j] ^= mul(quotient[k], g[j]);
            }
        }
        return new int[][] {trimmed(quotient), trimmed(rest)};
    }

    private int[] divisor(int[] f, int[] g) {
        if (g.length > 0) {
            return divisor(g, division(f, g)[1]);
        }
        return f.length == 0 ? f : mul(f, new int[] {inv(f[f.length - 1])});
    }

    public int polynomial() {
        int number = keep(row.stream().mapToInt(v -> v).toArray());
        drop();
        return number;
    }

    private int[] lagrange(List<Integer> xs, List<Integer> ys) {
        int[] sum = {};
        for (int i = 0; i < xs.size(); i++) {
            int[] term = {ys.get(i)};
            for (int j = 0; j < xs.size(); j++) {
                if (j != i) {
                    int by = inv(xs.get(i) ^ xs.get(j));
                    term = mul(term, new int[] {mul(xs.get(j), by), by});
                }
            }
            sum = sum(sum, term);
        }
        return sum;
    }

    public int through() {
        state(row.size() % 2 == 0);
        List<Integer> xs = new ArrayList<>();
        List<Integer> ys = new ArrayList<>();
        for (int k = 0; k < row.size(); k += 2) {
            xs.add(row.get(k));
            ys.add(row.get(k + 1));
        }
        state(new HashSet<>(xs).size() == xs.size());
        int number = keep(lagrange(xs, ys));
        drop();
        return number;
    }

    public int degree(int p) {
        return polynomialAt(p).length - 1;
    }

    public int coefficient(int p, int k) {
        int[] f = polynomialAt(p);
        if (k < 0) {
            throw new IndexOutOfBoundsException();
        }
        return k < f.length ? f[k] : 0;
    }

    private int valueOf(int[] f, int x) {
        int sum = 0;
        int power = 1;
        for (int c : f) {
            sum ^= mul(c, power);
            power = mul(power, x);
        }
        return sum;
    }

    public int value(int p, int x) {
        int[] f = polynomialAt(p);
        member(x);
        return valueOf(f, x);
    }

    public int plus(int p, int q) {
        return keep(sum(polynomialAt(p), polynomialAt(q)));
    }

    public int multiply(int p, int q) {
        return keep(mul(polynomialAt(p), polynomialAt(q)));
    }

    public int divide(int p, int q, boolean rest) {
        int[] f = polynomialAt(p);
        int[] g = polynomialAt(q);
        if (g.length == 0) {
            throw new ArithmeticException();
        }
        return keep(division(f, g)[rest ? 1 : 0]);
    }

    public int common(int p, int q) {
        return keep(divisor(polynomialAt(p), polynomialAt(q)));
    }

    public int root(int p, int k) {
        int[] f = polynomialAt(p);
        if (k < 0) {
            throw new IndexOutOfBoundsException();
        }
        int left = k;
        for (int x = 0; x < size; x++) {
            if (valueOf(f, x) == 0) {
                if (left == 0) {
                    return x;
                }
                left--;
            }
        }
        return NONE;
    }

    public int often(int p, int v) {
        int[] f = polynomialAt(p);
        member(v);
        if (f.length == 0) {
            return NONE;
        }
        int count = 0;
        while (valueOf(f, v) == 0) {
            f = division(f, new int[] {v, 1})[0];
            count++;
        }
        return count;
    }

    /** x to the size to the d, less x, has each part whose degree divides d once. */
    public int parts(int p, int d) {
        int[] f = polynomialAt(p);
        if (d < 1 || d > 64) {
            throw new IllegalArgumentException();
        }
        if (f.length == 0) {
            return NONE;
        }
        int count = 0;
        int[] x = {0, 1};
        int[] power = x;
        for (int n = 1; n <= d && n < f.length; n++) {
            for (int k = 0; k < bits; k++) {
                power = division(mul(power, power), f)[1];
            }
            int[] shared = divisor(f, sum(power, x));
            while (shared.length > 1) {
                count += n == d ? (shared.length - 1) / d : 0;
                f = division(f, shared)[0];
                shared = divisor(f, shared);
            }
        }
        return count;
    }

    public int span() {
        state(row.size() <= 6);
        List<Integer> made = new ArrayList<>(List.of(0));
        for (int b : row) {
            state(!made.contains(b));
            int had = made.size();
            for (int k = 0; k < had; k++) {
                made.add(made.get(k) ^ b);
            }
        }
        drop();
        span = made;
        return span.size();
    }

    public int forth(int p) {
        int[] f = polynomialAt(p);
        state(!span.isEmpty());
        drop();
        for (int x : span) {
            row.add(valueOf(f, x));
        }
        return row.size();
    }

    public int back() {
        state(!span.isEmpty() && row.size() == span.size());
        int number = keep(lagrange(span, row));
        drop();
        return number;
    }

    public int told(int what) {
        switch (what) {
            case 0: return row.size();
            case 1: return matrices.size();
            case 2: return polynomials.size();
            case 3: return span.size();
            default: throw new IllegalArgumentException();
        }
    }
}
