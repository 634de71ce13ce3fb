import java.util.ArrayList;
import java.util.Collections;
import java.util.List;

/** Promises 36 to 39, sentence by sentence. */
final class SpanSentences extends Sentences {
    static void all() {
        span();
        spanRefused();
        forth();
        back();
        backRefused();
        told();
    }

    /** THE SPAN's members, as the values there of polynomial p, which has to be x. */
    private static List<Integer> members(Subject x, int p) {
        x.forth(p);
        List<Integer> members = Check.rowOf(x);
        x.drop();
        return members;
    }

    private static int spanOf(Subject x, int... row) {
        x.drop();
        Check.put(x, row);
        return x.span();
    }

    private static void span() {
        test(36, "Reads THE ROW: members b 0, b 1, ..: THE SPAN has all xors of some of them", (x, size) -> {
            int line = Check.polynomial(x, 0, 1);
            same("of none", x.span(), 1);
            same("the xor of none alone", members(x, line), List.of(0));
            same("of one", spanOf(x, size - 1), 2);
            same("the row is read", x.told(0), 0);
            same("none and that one", members(x, line), List.of(0, size - 1));
            same("of six", spanOf(x, 32, 16, 8, 4, 2, 1), 64);
            List<Integer> sorted = new ArrayList<>(members(x, line));
            Collections.sort(sorted);
            for (int k = 0; k < 64; k++) {
                same("all of six, " + k, sorted.get(k), k);
            }
            same("a smaller one takes its place", spanOf(x, 5), 2);
            same("its members", members(x, line), List.of(0, 5));
            same("that of none takes its place", x.span(), 1);
            same("its member", members(x, line), List.of(0));
        });
        test(36, ", member i of it that of the b k whose bits k of i are set", (x, size) -> {
            int line = Check.polynomial(x, 0, 1);
            spanOf(x, 9, 4, 2);
            same("of three", members(x, line), List.of(0, 9, 4, 13, 2, 11, 6, 15));
            int[] b = {size - 1, 1, 2, 4, 8, 16};
            spanOf(x, b);
            List<Integer> members = members(x, line);
            for (int i = 0; i < 64; i++) {
                int xor = 0;
                for (int k = 0; k < 6; k++) {
                    xor ^= (i >> k & 1) * b[k];
                }
                same("member " + i, members.get(i), xor);
            }
        });
        test(36, ": how many.", (x, size) -> {
            for (int count = 0; count <= 6; count++) {
                for (int k = 0; k < count; k++) {
                    x.put(1 << k);
                }
                same("of " + count, x.span(), 1 << count);
                same("told of " + count, x.told(3), 1 << count);
            }
        });
    }

    private static void spanRefused() {
        test(36, "IllegalStateException: THE ROW has more than 6", (x, size) -> {
            Check.put(x, 1, 2, 4, 8, 16, 32, 64);
            refuses(x, STATE, "7", x::span);
            putMany(x, 123, 128);
            refuses(x, STATE, "130", x::span);
            same("there is still no SPAN", x.told(3), 0);
            same("6", spanOf(x, 1, 2, 4, 8, 16, 32), 64);
            Check.put(x, 1, 2, 4, 8, 16, 32, 64);
            refuses(x, STATE, "7 behind 6", x::span);
        });
        test(36, ", or a member of it is an xor of some ahead of it", (x, size) -> {
            int line = Check.polynomial(x, 0, 1);
            spanOf(x, 3, 2);
            int[][] rows = {{5, 5}, {5, 6, 3}, {5, 6, 5}, {5, 6, 6}, {1, 2, 4, 7}, {1, 2, 4, 8, 16, 31},
                {1, 2, 4, 8, 16, 1}, {1, 2, 4, 8, 16, 24}, {1, 2, 3, 8, 16, 32}, {size - 1, size - 2, 1}};
            for (int[] row : rows) {
                Check.put(x, row);
                refuses(x, STATE, "in " + Check.rowOf(x), x::span);
                x.drop();
            }
            same("THE SPAN stays", members(x, line), List.of(0, 3, 2, 1));
            same("none is an xor", spanOf(x, size - 1, size - 2, 2), 8);
        });
        test(36, "(0 for none).", (x, size) -> {
            int[][] rows = {{0}, {0, 1}, {1, 0}, {1, 2, 4, 8, 16, 0}};
            for (int[] row : rows) {
                x.drop();
                Check.put(x, row);
                refuses(x, STATE, "in " + Check.rowOf(x), x::span);
            }
        });
    }

    private static void forth() {
        test(37, "The values of a polynomial at all members of THE SPAN, in order, become THE ROW: how many.",
                (x, size) -> {
            int cubic = Check.polynomial(x, 7, 0, 2, 1);
            int zero = Check.polynomial(x);
            int most = Check.ones(x, 64, 0);
            x.span();
            same("at 0 alone", x.forth(cubic), 1);
            same("its value", Check.rowOf(x), List.of(7));
            int[] b = {4, size - 1, 1};
            spanOf(x, b);
            putMany(x, 130, 9);
            same("a full row is gone", x.forth(cubic), 8);
            for (int i = 0; i < 8; i++) {
                int member = (i & 1) * 4 ^ (i >> 1 & 1) * (size - 1) ^ (i >> 2);
                same("value " + i, x.row(i), x.value(cubic, member));
            }
            same("no more than these", x.row(8), NONE);
            spanOf(x, 1, 2, 4, 8, 16, 32);
            same("of 0 at 64", x.forth(zero), 64);
            same("all 0", Check.rowOf(x), Collections.nCopies(64, 0));
            same("of the greatest DEGREE at 64", x.forth(most), 64);
            same("its last value", x.row(63), x.value(most, 63));
            same("a row behind them goes on", x.put(1), 65);
            same("THE SPAN stays", x.told(3), 64);
        });
        test(37, "IndexOutOfBoundsException;", (x, size) -> {
            x.span();
            refuses(x, INDEX, "forth(0) of none", () -> x.forth(0));
            x.polynomial();
            x.put(9);
            for (int bad : noNumbers(1)) {
                refuses(x, INDEX, "forth(" + bad + ")", () -> x.forth(bad));
            }
        });
        test(37, "IllegalStateException: there is no SPAN yet.", (x, size) -> {
            x.polynomial();
            refuses(x, STATE, "forth(0)", () -> x.forth(0));
            x.put(0);
            refuses(x, STATE, "span() that is refused", x::span);
            refuses(x, STATE, "forth(0) behind it", () -> x.forth(0));
            x.drop();
            x.span();
            same("forth(0) behind a SPAN of one", x.forth(0), 1);
        });
    }

    private static void back() {
        test(38, "Reads THE ROW: the polynomial of the least DEGREE with these values at THE SPAN's members, in order:"
                + " its number.", (x, size) -> {
            x.span();
            x.put(size - 1);
            same("at 0 alone", x.back(), 0);
            same("the row is read", x.told(0), 0);
            same("a constant", Check.coefficientsOf(x, 0), List.of(size - 1));
            x.put(0);
            same("0, as the least", x.degree(x.back()), NONE);
            spanOf(x, 2, 1);
            Check.put(x, 0, 2, 1, 3);
            same("its own members", Check.coefficientsOf(x, x.back()), List.of(0, 1));
            Check.put(x, 6, 6, 6, 6);
            same("one value", Check.coefficientsOf(x, x.back()), List.of(6));
            spanOf(x, 1, 2, 4, 8, 16, 32);
            putMany(x, 64, 0);
            same("64 that are 0", x.degree(x.back()), NONE);
            // A polynomial with 63 roots that is not 0 has no lower DEGREE.
            putMany(x, 63, 0);
            x.put(1);
            int most = x.back();
            same("63 that are 0", x.degree(most), 63);
            same("the one that is not", x.value(most, 63), 1);
            same("one that is", x.value(most, 62), 0);
            same("THE SPAN stays", x.told(3), 64);
        });
    }

    private static void backRefused() {
        test(38, "IllegalStateException: there is no SPAN yet", (x, size) -> {
            refuses(x, STATE, "of none", x::back);
            x.put(0);
            refuses(x, STATE, "of one", x::back);
            refuses(x, STATE, "span() that is refused", x::span);
            refuses(x, STATE, "of one behind it", x::back);
        });
        test(38, ", or THE ROW has not just so many;", (x, size) -> {
            x.span();
            refuses(x, STATE, "none for 1", x::back);
            Check.put(x, 1, 2);
            refuses(x, STATE, "2 for 1", x::back);
            spanOf(x, 1, 2, 4, 8, 16, 32);
            refuses(x, STATE, "none for 64", x::back);
            putMany(x, 63, 1);
            refuses(x, STATE, "63 for 64", x::back);
            putMany(x, 2, 1);
            refuses(x, STATE, "65 for 64", x::back);
            putMany(x, 65, 1);
            refuses(x, STATE, "130 for 64", x::back);
            x.drop();
            putMany(x, 64, 1);
            same("64 for 64", x.back(), 0);
        });
        test(38, "UnsupportedOperationException.", (x, size) -> {
            while (x.told(2) < 39) {
                x.polynomial();
            }
            spanOf(x, 1);
            Check.put(x, 5, 6);
            same("the last one there is room for", x.back(), 39);
            Check.put(x, 5, 6);
            refuses(x, ROOM, "one too many", x::back);
        });
    }

    private static void told() {
        test(39, "How many: what = 0 members of THE ROW", (x, size) -> {
            same("none", x.told(0), 0);
            x.put(0);
            same("one", x.told(0), 1);
            putMany(x, 129, 0);
            same("all there can be", x.told(0), 130);
            x.drop();
            same("none again", x.told(0), 0);
        });
        test(39, ", 1 matrices", (x, size) -> {
            same("none", x.told(1), 0);
            x.matrix(1, 1);
            same("one", x.told(1), 1);
            x.invert(0);
            same("none more for NONE", x.told(1), 1);
            Check.fillMatrices(x);
            same("all there can be", x.told(1), 40);
        });
        test(39, ", 2 polynomials", (x, size) -> {
            same("none", x.told(2), 0);
            x.polynomial();
            same("one", x.told(2), 1);
            Check.fillPolynomials(x);
            same("all there can be", x.told(2), 40);
        });
        test(39, ", 3 members of THE SPAN", (x, size) -> {
            x.span();
            same("that of none", x.told(3), 1);
            spanOf(x, 1, 2, 4, 8, 16, 32);
            same("that of six", x.told(3), 64);
            spanOf(x, 1);
            same("that of one", x.told(3), 2);
        });
        test(39, "(0 ahead of one).", (x, size) -> {
            same("of a new object", x.told(3), 0);
            x.put(0);
            refuses(x, STATE, "span() that is refused", x::span);
            same("behind it", x.told(3), 0);
        });
        test(39, "IllegalArgumentException.", (x, size) -> {
            for (int bad : new int[] {-1, 4, 5, LEAST, GREATEST}) {
                refuses(x, ARGUMENT, "told(" + bad + ")", () -> x.told(bad));
            }
        });
    }
}
