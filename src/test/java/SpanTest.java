import java.util.ArrayList;
import java.util.List;
import java.util.Random;

/** Promises 36 to 39. */
public final class SpanTest {
    private static final Class<IllegalArgumentException> ARGUMENT = IllegalArgumentException.class;
    private static final Class<IllegalStateException> STATE = IllegalStateException.class;
    private static final Class<IndexOutOfBoundsException> INDEX = IndexOutOfBoundsException.class;
    private static final Class<UnsupportedOperationException> ROOM = UnsupportedOperationException.class;

    public static void main(String[] args) {
        for (int bits : new int[] {8, 16}) {
            spans(bits);
            refusedSpans(bits);
            forthAndBack(bits);
            withoutSpan(bits);
            told(bits);
        }
        Check.end();
    }

    private static Subject made(int bits) {
        return new Subject(bits, bits == 8 ? 29 : 4107);
    }

    /** THE SPAN's members, as the values of x there. */
    private static List<Integer> spanOf(Subject x) {
        int p = Check.polynomial(x, 0, 1);
        Check.same("forth", x.forth(p), x.told(3));
        List<Integer> members = Check.rowOf(x);
        x.drop();
        return members;
    }

    private static void spans(int bits) {
        Subject x = made(bits);
        Check.same("span of none", x.span(), 1);
        Check.same("its members", spanOf(x), List.of(0));
        Check.put(x, 9);
        Check.same("span of one", x.span(), 2);
        Check.same("the row is read", x.told(0), 0);
        Check.same("its members", spanOf(x), List.of(0, 9));
        Check.put(x, 4, 7, 1);
        Check.same("span of three", x.span(), 8);
        Check.same("its members", spanOf(x), List.of(0, 4, 7, 3, 1, 5, 6, 2));
        int[] six = {200, 100, 50, 25, 12, 6};
        Check.put(x, six);
        Check.same("span of six", x.span(), 64);
        List<Integer> due = new ArrayList<>();
        for (int i = 0; i < 64; i++) {
            int xor = 0;
            for (int k = 0; k < 6; k++) {
                xor ^= (i >> k & 1) * six[k];
            }
            due.add(xor);
        }
        Check.same("its members", spanOf(x), due);
        Check.same("span of none again", x.span(), 1);
        Check.same("told of it", x.told(3), 1);
    }

    private static void refusedSpans(int bits) {
        Subject x = made(bits);
        Check.put(x, 0);
        Check.refuses(x, STATE, "0", x::span);
        x.drop();
        Check.put(x, 2, 3);
        x.span();
        List<Integer> members = spanOf(x);
        int[][] refused = {{0}, {5, 0}, {5, 5}, {5, 6, 3}, {1, 2, 4, 7}, {1, 2, 4, 8, 16, 31}, {1, 2, 4, 8, 16, 24},
            {1, 2, 4, 8, 16, 32, 64}, {1, 1, 1, 1, 1, 1, 1}};
        for (int[] row : refused) {
            Check.put(x, row);
            Check.refuses(x, STATE, "span of " + row.length, x::span);
            x.drop();
        }
        for (int k = 0; k < 130; k++) {
            x.put(k % 3);
        }
        Check.refuses(x, STATE, "span of 130", x::span);
        Check.same("the span stays", spanOf(x), members);
    }

    private static void forthAndBack(int bits) {
        Random random = new Random(8);
        for (int n = 0; n <= 6; n++) {
            Subject x = made(bits);
            for (int k = 0; k < n; k++) {
                x.put((1 << k) ^ (k > 0 ? random.nextInt(1 << k) : 0));
            }
            int size = x.span();
            List<Integer> members = spanOf(x);
            List<Integer> ys = new ArrayList<>();
            for (int k = 0; k < size; k++) {
                ys.add(random.nextInt(1 << bits));
                x.put(ys.get(k));
            }
            int p = x.back();
            Check.same("the row is read", x.told(0), 0);
            Check.holds("degree of back " + n, x.degree(p) < size);
            for (int k = 0; k < size; k++) {
                Check.same("value of back", x.value(p, members.get(k)), ys.get(k));
            }
            Check.put(x, 1, 2, 3);
            Check.same("forth", x.forth(p), size);
            Check.same("the row is what forth made", Check.rowOf(x), ys);
            Check.put(x, 5);
            Check.refuses(x, STATE, "one member too many", x::back);
            x.drop();
            for (int k = 0; k < size; k++) {
                if (k == size - 1) {
                    Check.refuses(x, STATE, "one member too few", x::back);
                }
                x.put(7);
            }
            Check.same("back of one value", Check.coefficientsOf(x, x.back()), List.of(7));
            for (int k = 0; k < size; k++) {
                x.put(0);
            }
            Check.same("back of zeros", x.degree(x.back()), ByteFields.NONE);
            Check.same("forth of 0", x.forth(x.told(2) - 1), size);
        }
        Subject y = made(bits);
        Check.put(y, 1, 2);
        y.span();
        int high = Check.ones(y, 64, 5, 0);
        y.forth(high);
        List<Integer> values = Check.rowOf(y);
        int low = y.back();
        Check.holds("four values need no degree above 3", y.degree(low) < 4);
        y.forth(low);
        Check.same("the same values", Check.rowOf(y), values);
    }

    private static void withoutSpan(int bits) {
        Subject x = made(bits);
        Check.refuses(x, STATE, "back without a span", x::back);
        int p = Check.polynomial(x, 1, 2);
        Check.put(x, 5);
        Check.refuses(x, STATE, "forth without a span", () -> x.forth(p));
        Check.refuses(x, STATE, "back of one without a span", x::back);
        Check.refuses(x, INDEX, "no such polynomial, no span", () -> x.forth(1));
        Check.same("span", x.span(), 2);
        for (int bad : new int[] {-1, 1, 40, Integer.MIN_VALUE, Integer.MAX_VALUE}) {
            Check.refuses(x, INDEX, "forth of " + bad, () -> x.forth(bad));
        }
        Check.fillPolynomials(x);
        Check.put(x, 1);
        Check.refuses(x, STATE, "too few, no room", x::back);
        Check.put(x, 1);
        Check.refuses(x, ROOM, "back without room", x::back);
        Check.same("forth needs no room", x.forth(0), 2);
    }

    private static void told(int bits) {
        Subject x = made(bits);
        for (int what = 0; what < 4; what++) {
            Check.same("told " + what, x.told(what), 0);
        }
        Check.put(x, 1, 2, 4);
        x.matrix(1, 1);
        x.matrix(2, 2);
        Check.same("told of the row", x.told(0), 3);
        Check.same("told of matrices", x.told(1), 2);
        x.span();
        x.polynomial();
        Check.same("told of the row read", x.told(0), 0);
        Check.same("told of polynomials", x.told(2), 1);
        Check.same("told of the span", x.told(3), 8);
        x.forth(0);
        Check.same("told of the row made", x.told(0), 8);
        for (int bad : new int[] {-1, 4, Integer.MIN_VALUE, Integer.MAX_VALUE}) {
            Check.refuses(x, ARGUMENT, "told " + bad, () -> x.told(bad));
        }
    }
}
