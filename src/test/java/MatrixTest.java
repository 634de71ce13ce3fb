import java.util.List;
import java.util.Random;

/** Promises 12 to 23. */
public final class MatrixTest {
    private static final Class<IllegalArgumentException> ARGUMENT = IllegalArgumentException.class;
    private static final Class<IllegalStateException> STATE = IllegalStateException.class;
    private static final Class<IndexOutOfBoundsException> INDEX = IndexOutOfBoundsException.class;
    private static final Class<UnsupportedOperationException> ROOM = UnsupportedOperationException.class;
    private static final int[] NO_SIDES = {0, 9, -1, Integer.MIN_VALUE, Integer.MAX_VALUE};

    public static void main(String[] args) {
        for (int bits : new int[] {8, 16}) {
            zeros(bits);
            powers(bits);
            sums(bits);
            sizesAndCells(bits);
            products(bits);
            inverses(bits);
            ranks(bits);
            determinants(bits);
            singular(bits);
            solutions(bits);
            inconsistent(bits);
        }
        Check.end();
    }

    private static Subject made(int bits) {
        return new Subject(bits, bits == 8 ? 29 : 4107);
    }

    private static void zeros(int bits) {
        Subject x = made(bits);
        Check.put(x, 7);
        for (int bad : NO_SIDES) {
            Check.refuses(x, ARGUMENT, "rows " + bad, () -> x.matrix(bad, 1));
            Check.refuses(x, ARGUMENT, "columns " + bad, () -> x.matrix(1, bad));
        }
        for (int n = 0; n < 40; n++) {
            Check.same("number of a matrix", x.matrix(n % 8 + 1, 8 - n / 8), n);
            Check.same("told of matrices", x.told(1), n + 1);
            Check.same("rows", x.size(n, 0), n % 8 + 1);
            Check.same("columns", x.size(n, 1), 8 - n / 8);
            for (int cell : Check.cellsOf(x, n)) {
                Check.same("a cell of a new matrix", cell, 0);
            }
        }
        Check.same("matrix() reads no row", Check.rowOf(x), List.of(7));
        Check.refuses(x, ROOM, "a matrix too many", () -> x.matrix(1, 1));
        Check.refuses(x, ARGUMENT, "no sides, no room", () -> x.matrix(0, 1));
    }

    private static void powers(int bits) {
        Subject x = made(bits);
        Check.put(x, 5, 0, 1, 2, 200, 201, 202, 255);
        List<Integer> members = Check.rowOf(x);
        Check.same("powers(8, 8)", x.powers(8, 8), 0);
        Check.same("the row is read", x.told(0), 0);
        for (int i = 0; i < 8; i++) {
            for (int j = 0; j < 8; j++) {
                Check.same("power " + i + ", " + j, x.cell(0, i, j), x.power(members.get(i), j));
            }
        }
        Check.put(x, 0, 3);
        Check.same("powers(2, 5)", x.powers(2, 5), 1);
        Check.same("cells of powers(2, 5)", Check.cellsOf(x, 1), List.of(1, 0, 0, 0, 0, 1, 3, 5, 15, 17));
        Check.put(x, 9);
        Check.same("powers(1, 1)", x.powers(1, 1), 2);
        Check.same("cells of powers(1, 1)", Check.cellsOf(x, 2), List.of(1));
        Check.refuses(x, STATE, "no members", () -> x.powers(1, 1));
        Check.put(x, 4, 5, 6);
        Check.refuses(x, STATE, "too few members", () -> x.powers(4, 3));
        Check.refuses(x, STATE, "too many members", () -> x.powers(2, 3));
        for (int bad : NO_SIDES) {
            Check.refuses(x, ARGUMENT, "powers of rows " + bad, () -> x.powers(bad, 1));
            Check.refuses(x, ARGUMENT, "powers of columns " + bad, () -> x.powers(3, bad));
        }
        Check.put(x, 4);
        Check.refuses(x, STATE, "two alike", () -> x.powers(4, 1));
        Check.fillMatrices(x);
        Check.refuses(x, STATE, "two alike, no room", () -> x.powers(4, 1));
        Check.refuses(x, ARGUMENT, "no sides, two alike, no room", () -> x.powers(4, 9));
        x.drop();
        Check.put(x, 1);
        Check.refuses(x, ROOM, "powers without room", () -> x.powers(1, 1));
    }

    private static void sums(int bits) {
        Subject x = made(bits);
        int[] members = {0, 1, 2, 3, 4, 5, 6, 7, 255, 254, 100, 101, 50, 51, 128, 129};
        Check.put(x, members);
        Check.same("sums(8, 8)", x.sums(8, 8), 0);
        Check.same("the row is read", x.told(0), 0);
        for (int i = 0; i < 8; i++) {
            for (int j = 0; j < 8; j++) {
                Check.same("sum " + i + ", " + j, x.cell(0, i, j), x.quotient(1, members[i] ^ members[8 + j]));
            }
        }
        Check.put(x, 9, 8, 10, 11);
        Check.same("sums(1, 3)", x.sums(1, 3), 1);
        Check.same("cells of sums(1, 3)", Check.cellsOf(x, 1),
                List.of(1, x.quotient(1, 3), x.quotient(1, 2)));
        Check.put(x, 9, 8, 10, 11);
        Check.same("sums(3, 1)", x.sums(3, 1), 2);
        Check.same("cells of sums(3, 1)", Check.cellsOf(x, 2),
                List.of(x.quotient(1, 2), x.quotient(1, 3), 1));
        Check.put(x, 9, 8, 10);
        Check.refuses(x, STATE, "too few members", () -> x.sums(2, 2));
        Check.refuses(x, STATE, "too many members", () -> x.sums(1, 1));
        for (int bad : NO_SIDES) {
            Check.refuses(x, ARGUMENT, "sums of rows " + bad, () -> x.sums(bad, 1));
            Check.refuses(x, ARGUMENT, "sums of columns " + bad, () -> x.sums(1, bad));
        }
        Check.put(x, 9);
        Check.refuses(x, STATE, "a row's member is a column's", () -> x.sums(2, 2));
        Check.refuses(x, STATE, "two rows' members alike", () -> x.sums(1, 3));
        x.drop();
        Check.put(x, 1, 2, 3, 3);
        Check.refuses(x, STATE, "two columns' members alike", () -> x.sums(2, 2));
        Check.fillMatrices(x);
        Check.refuses(x, STATE, "two alike, no room", () -> x.sums(2, 2));
        Check.refuses(x, ARGUMENT, "no sides, no room", () -> x.sums(0, 2));
        x.drop();
        Check.put(x, 1, 2);
        Check.refuses(x, ROOM, "sums without room", () -> x.sums(1, 1));
    }

    private static void sizesAndCells(int bits) {
        Subject x = made(bits);
        int size = 1 << bits;
        x.matrix(2, 3);
        x.matrix(3, 2);
        for (int bad : new int[] {-1, 2, 40, Integer.MIN_VALUE, Integer.MAX_VALUE}) {
            Check.refuses(x, INDEX, "size of matrix " + bad, () -> x.size(bad, 0));
            Check.refuses(x, INDEX, "size of matrix " + bad + ", no such what", () -> x.size(bad, 2));
            Check.refuses(x, INDEX, "cell of matrix " + bad, () -> x.cell(bad, 0, 0));
            Check.refuses(x, INDEX, "set of matrix " + bad, () -> x.set(bad, 0, 0, 1));
            Check.refuses(x, INDEX, "set of matrix " + bad + ", no member", () -> x.set(bad, 0, 0, -1));
        }
        for (int bad : new int[] {-1, 2, Integer.MIN_VALUE, Integer.MAX_VALUE}) {
            Check.refuses(x, ARGUMENT, "size " + bad, () -> x.size(0, bad));
            Check.refuses(x, INDEX, "row " + bad, () -> x.cell(0, bad, 0));
            Check.refuses(x, INDEX, "column " + bad, () -> x.cell(1, 0, bad));
            Check.refuses(x, INDEX, "set of row " + bad, () -> x.set(0, bad, 0, 1));
            Check.refuses(x, INDEX, "set of column " + bad, () -> x.set(1, 0, bad, 1));
            Check.refuses(x, INDEX, "set of column " + bad + ", no member", () -> x.set(1, 0, bad, size));
        }
        Check.refuses(x, INDEX, "a row that only the other matrix has", () -> x.cell(0, 2, 0));
        Check.refuses(x, INDEX, "a column that only the other matrix has", () -> x.cell(1, 0, 2));
        for (int bad : new int[] {-1, size, Integer.MIN_VALUE, Integer.MAX_VALUE}) {
            Check.refuses(x, ARGUMENT, "set to " + bad, () -> x.set(0, 1, 2, bad));
        }
        for (int k = 0; k < 6; k++) {
            Check.same("set", x.set(0, k / 3, k % 3, size - 1 - k), 0);
        }
        Check.same("set again", x.set(0, 1, 2, 0), size - 6);
        Check.same("set of the same", x.set(0, 1, 1, size - 5), size - 5);
        Check.same("cells", Check.cellsOf(x, 0), List.of(size - 1, size - 2, size - 3, size - 4, size - 5, 0));
        Check.same("cells of the other", Check.cellsOf(x, 1), List.of(0, 0, 0, 0, 0, 0));
    }

    private static void products(int bits) {
        Subject x = made(bits);
        Check.matrix(x, 2, 3, 1, 2, 3, 4, 5, 6);
        Check.matrix(x, 3, 1, 7, 8, 9);
        Check.put(x, 3);
        Check.same("times", x.times(0, 1), 2);
        int upper = 7 ^ x.product(2, 8) ^ x.product(3, 9);
        int lower = x.product(4, 7) ^ x.product(5, 8) ^ x.product(6, 9);
        Check.same("cells of times", Check.cellsOf(x, 2), List.of(upper, lower));
        Check.same("rows of times", x.size(2, 0), 2);
        Check.same("columns of times", x.size(2, 1), 1);
        Check.same("times() reads no row", x.told(0), 1);
        Check.refuses(x, STATE, "sides that do not fit", () -> x.times(1, 0));
        Check.refuses(x, STATE, "a matrix by itself", () -> x.times(0, 0));
        Check.matrix(x, 2, 2, 1, 1, 0, 1);
        Check.same("a square by itself", x.times(3, 3), 4);
        Check.same("cells of the square", Check.cellsOf(x, 4), List.of(1, 0, 0, 1));
        Check.same("what was multiplied", Check.cellsOf(x, 3), List.of(1, 1, 0, 1));
        x.set(3, 0, 0, 9);
        Check.same("the product stays", Check.cellsOf(x, 4), List.of(1, 0, 0, 1));
        for (int bad : new int[] {-1, 5, 40, Integer.MIN_VALUE, Integer.MAX_VALUE}) {
            Check.refuses(x, INDEX, "times of " + bad, () -> x.times(bad, 0));
            Check.refuses(x, INDEX, "times by " + bad, () -> x.times(0, bad));
        }
        Check.fillMatrices(x);
        Check.refuses(x, ROOM, "times without room", () -> x.times(0, 1));
        Check.refuses(x, STATE, "sides that do not fit, no room", () -> x.times(1, 0));
        Check.refuses(x, INDEX, "no such matrix, no room", () -> x.times(0, 40));
    }

    private static void inverses(int bits) {
        Random random = new Random(bits);
        for (int n = 1; n <= 8; n++) {
            Subject x = made(bits);
            fillRandom(x, x.matrix(n, n), random, 1 << bits);
            x.set(0, 0, 0, 0);
            List<Integer> before = Check.cellsOf(x, 0);
            Check.same("invert", x.invert(0), x.determinant(0) == 0 ? ByteFields.NONE : 1);
            Check.same("what was inverted", Check.cellsOf(x, 0), before);
            if (x.told(1) == 2) {
                isIdentity(x, x.times(0, 1), n);
                isIdentity(x, x.times(1, 0), n);
            }
        }
        Subject x = made(bits);
        Check.matrix(x, 3, 3, 0, 0, 2, 1, 0, 0, 0, 1, 0);
        Check.matrix(x, 3, 3, 1, 2, 3, 4, 5, 6, 5, 7, 5);
        Check.matrix(x, 2, 3, 1, 0, 0, 0, 1, 0);
        x.matrix(1, 1);
        Check.put(x, 1);
        Check.same("inverse of places changed", x.invert(0), 4);
        Check.same("its cells", Check.cellsOf(x, 4), List.of(0, 1, 0, 0, 0, 1, x.quotient(1, 2), 0, 0));
        Check.same("no inverse", x.invert(1), ByteFields.NONE);
        Check.same("no inverse of 0", x.invert(3), ByteFields.NONE);
        Check.same("no matrix came", x.told(1), 5);
        Check.same("invert() reads no row", x.told(0), 1);
        Check.refuses(x, STATE, "inverse of what is not square", () -> x.invert(2));
        Check.refuses(x, INDEX, "inverse of no matrix", () -> x.invert(5));
        Check.refuses(x, INDEX, "inverse of matrix -1", () -> x.invert(-1));
        Check.fillMatrices(x);
        Check.refuses(x, ROOM, "inverse without room", () -> x.invert(0));
        Check.refuses(x, ROOM, "no inverse, no room", () -> x.invert(1));
        Check.refuses(x, STATE, "not square, no room", () -> x.invert(2));
        Check.refuses(x, INDEX, "no matrix, no room", () -> x.invert(40));
    }

    private static void fillRandom(Subject x, int matrix, Random random, int below) {
        for (int i = 0; i < x.size(matrix, 0); i++) {
            for (int j = 0; j < x.size(matrix, 1); j++) {
                x.set(matrix, i, j, random.nextInt(below));
            }
        }
    }

    private static void isIdentity(Subject x, int matrix, int n) {
        for (int i = 0; i < n; i++) {
            for (int j = 0; j < n; j++) {
                Check.same("identity of " + n + " at " + i + ", " + j, x.cell(matrix, i, j), i == j ? 1 : 0);
            }
        }
    }

    private static void ranks(int bits) {
        for (int rank = 0; rank <= 8; rank++) {
            Subject x = made(bits);
            int left = x.matrix(8, Math.max(rank, 1));
            int right = x.matrix(Math.max(rank, 1), 8);
            for (int k = 0; k < rank; k++) {
                for (int i = 0; i < 8; i++) {
                    // Powers of members that differ: no column of the left is made by others.
                    x.set(left, i, k, x.power(i + 1, k));
                    x.set(right, k, i, x.power(i + 20, k));
                }
            }
            Check.same("rank of a product by " + rank, x.rank(x.times(left, right)), rank);
        }
        Subject y = made(bits);
        Check.matrix(y, 2, 3, 0, 0, 1, 0, 0, 2);
        Check.matrix(y, 3, 2, 0, 0, 0, 1, 2, 0);
        Check.matrix(y, 1, 8, 0, 0, 0, 0, 0, 0, 0, 9);
        y.matrix(8, 1);
        Check.same("rank of one column", y.rank(0), 1);
        Check.same("rank of two columns", y.rank(1), 2);
        Check.same("rank of one row", y.rank(2), 1);
        Check.same("rank of 0", y.rank(3), 0);
        Check.same("rank changes nothing", Check.cellsOf(y, 0), List.of(0, 0, 1, 0, 0, 2));
        for (int bad : new int[] {-1, 4, 40, Integer.MIN_VALUE, Integer.MAX_VALUE}) {
            Check.refuses(y, INDEX, "rank of " + bad, () -> y.rank(bad));
        }
    }

    private static void determinants(int bits) {
        Subject x = made(bits);
        Check.matrix(x, 2, 2, 3, 5, 7, 11);
        Check.same("determinant of 2", x.determinant(0), x.product(3, 11) ^ x.product(5, 7));
        Check.matrix(x, 3, 3, 0, 4, 0, 0, 0, 5, 6, 0, 0);
        Check.same("determinant of places changed", x.determinant(1), x.product(x.product(4, 5), 6));
        Check.matrix(x, 1, 1, 200);
        Check.same("determinant of 1", x.determinant(2), 200);
        int last = 1;
        Check.put(x, 9, 20, 31, 42, 53, 64, 75, 86);
        List<Integer> members = Check.rowOf(x);
        for (int i = 0; i < 8; i++) {
            for (int k = 0; k < i; k++) {
                last = x.product(last, members.get(i) ^ members.get(k));
            }
        }
        Check.same("determinant of powers", x.determinant(x.powers(8, 8)), last);
        x.matrix(8, 8);
        Check.same("determinant of 0", x.determinant(4), 0);
        Check.matrix(x, 2, 3, 1, 0, 0, 0, 1, 0);
        Check.matrix(x, 3, 2, 1, 0, 0, 1, 0, 0);
        Check.refuses(x, STATE, "determinant of 2 by 3", () -> x.determinant(5));
        Check.refuses(x, STATE, "determinant of 3 by 2", () -> x.determinant(6));
        for (int bad : new int[] {-1, 7, 40, Integer.MIN_VALUE, Integer.MAX_VALUE}) {
            Check.refuses(x, INDEX, "determinant of " + bad, () -> x.determinant(bad));
        }
    }

    private static void singular(int bits) {
        Subject x = made(bits);
        for (int k = 0; k < 16; k++) {
            x.put(k * 3 + 1);
        }
        Check.same("singular of sums", x.singular(x.sums(8, 8)), 0);
        x.set(0, 7, 7, 0);
        Check.holds("singular of one cell 0", x.singular(0) >= 1);
        x.matrix(8, 8);
        Check.same("singular of 0", x.singular(1), 12869);
        x.matrix(8, 1);
        Check.same("singular of one column", x.singular(2), 8);
        x.matrix(2, 3);
        Check.same("singular of 2 by 3", x.singular(3), 9);
        x.matrix(3, 2);
        x.set(4, 1, 1, 5);
        Check.same("singular of 3 by 2", x.singular(4), 8);
        Check.matrix(x, 2, 2, 1, 2, 2, x.product(2, 2));
        Check.same("singular as a whole alone", x.singular(5), 1);
        int identity = Check.matrix(x, 8, 8);
        for (int i = 0; i < 8; i++) {
            x.set(identity, i, i, 1);
        }
        // Only the choices of the same columns as rows are not singular: 255 of them.
        Check.same("singular of the identity", x.singular(identity), 12869 - 255);
        Check.same("singular changes nothing", x.determinant(identity), 1);
        for (int bad : new int[] {-1, 7, 40, Integer.MIN_VALUE, Integer.MAX_VALUE}) {
            Check.refuses(x, INDEX, "singular of " + bad, () -> x.singular(bad));
        }
    }

    private static void solutions(int bits) {
        Subject x = made(bits);
        // Column 0 is 0, column 2 is twice column 1, column 4 is the sum of columns 1 and 3.
        Check.matrix(x, 3, 5, 0, 1, 2, 0, 1, 0, 3, 6, 1, 2, 0, 0, 0, 5, 5);
        Check.put(x, 7, x.product(3, 7) ^ 4, x.product(5, 4));
        Check.same("columns made by others", x.solve(0), 3);
        Check.same("a solution", Check.rowOf(x), List.of(0, 7, 0, 4, 0));
        x.drop();
        Check.put(x, 7, x.product(3, 7) ^ 4, x.product(5, 4) ^ 1);
        Check.same("no solution", x.solve(0), ByteFields.NONE);
        Check.same("the row is read all the same", x.told(0), 0);
        x.matrix(2, 8);
        Check.put(x, 0, 0);
        Check.same("0 x = 0", x.solve(1), 8);
        Check.same("its solution", Check.rowOf(x), List.of(0, 0, 0, 0, 0, 0, 0, 0));
        x.drop();
        Check.put(x, 0, 1);
        Check.same("0 x = 1", x.solve(1), ByteFields.NONE);
        Check.put(x, 0, 1);
        Check.refuses(x, STATE, "too few members", () -> x.solve(0));
        Check.put(x, 0, 1);
        Check.refuses(x, STATE, "too many members", () -> x.solve(0));
        x.drop();
        Check.refuses(x, STATE, "no members", () -> x.solve(1));
        for (int bad : new int[] {-1, 2, 40, Integer.MIN_VALUE, Integer.MAX_VALUE}) {
            Check.refuses(x, INDEX, "solve of " + bad, () -> x.solve(bad));
        }
    }

    private static void inconsistent(int bits) {
        Subject x = made(bits);
        Check.matrix(x, 4, 2, 1, 2, 3, 4, 5, 6, 7, 8);
        int[] b = new int[4];
        for (int i = 0; i < 4; i++) {
            b[i] = x.product(x.cell(0, i, 0), 77) ^ x.product(x.cell(0, i, 1), 99);
        }
        Check.put(x, b);
        Check.same("more rows than columns", x.solve(0), 0);
        Check.same("their solution", Check.rowOf(x), List.of(77, 99));
        for (int i = 0; i < 4; i++) {
            x.drop();
            b[i] ^= 1;
            Check.put(x, b);
            Check.same("one row that does not fit", x.solve(0), ByteFields.NONE);
            b[i] ^= 1;
        }
        x.matrix(8, 8);
        for (int i = 0; i < 8; i++) {
            x.set(1, i, 7 - i, i + 1);
            x.put(i + 1);
        }
        Check.same("places changed", x.solve(1), 0);
        Check.same("their solution", Check.rowOf(x), List.of(1, 1, 1, 1, 1, 1, 1, 1));
    }
}
