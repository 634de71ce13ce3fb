import java.util.Collections;
import java.util.List;

/** Promises 12 to 23, sentence by sentence. */
final class MatrixSentences extends Sentences {
    static void all() {
        matrix();
        powers();
        sums();
        size();
        cell();
        set();
        times();
        invert();
        rank();
        determinant();
        singular();
        solve();
        solveRefused();
    }

    private static int identity(Subject x, int side) {
        int made = x.matrix(side, side);
        for (int i = 0; i < side; i++) {
            x.set(made, i, i, 1);
        }
        return made;
    }

    private static void matrix() {
        test(12, "A matrix of 0: its number.", (x, size) -> {
            int[][] sides = {{1, 1}, {1, 8}, {8, 1}, {8, 8}};
            for (int n = 0; n < sides.length; n++) {
                same("number", x.matrix(sides[n][0], sides[n][1]), n);
                same("cells", Check.cellsOf(x, n), Collections.nCopies(sides[n][0] * sides[n][1], 0));
                x.set(n, 0, 0, 5);
            }
            same("number", x.matrix(1, 1), 4);
            same("0, whatever others have", x.cell(4, 0, 0), 0);
        });
        test(12, "IllegalArgumentException: rows, columns;", (x, size) -> {
            for (int bad : NO_SIDES) {
                for (int other : new int[] {1, 8, 0, 9}) {
                    refuses(x, ARGUMENT, "matrix(" + bad + ", " + other + ")", () -> x.matrix(bad, other));
                    refuses(x, ARGUMENT, "matrix(" + other + ", " + bad + ")", () -> x.matrix(other, bad));
                }
            }
        });
        test(12, "UnsupportedOperationException.", (x, size) -> {
            for (int n = 0; n < 39; n++) {
                x.matrix(8, 8);
            }
            same("the last one there is room for", x.matrix(1, 1), 39);
            refuses(x, ROOM, "one too many", () -> x.matrix(1, 1));
            refuses(x, ROOM, "one too many, again", () -> x.matrix(8, 8));
        });
    }

    private static void powers() {
        test(13, "Reads THE ROW: a matrix whose cell i, j is member i to the j", (x, size) -> {
            int[] members = {size - 1, 0, 1, 2, 3, 7, 100, 200};
            Check.put(x, members);
            same("powers(8, 8)", x.powers(8, 8), 0);
            same("the row is read", x.told(0), 0);
            for (int i = 0; i < 8; i++) {
                for (int j = 0; j < 8; j++) {
                    same("cell " + i + ", " + j, x.cell(0, i, j), x.power(members[i], j));
                }
            }
            Check.put(x, 9, 6, 5, 4, 3, 2, 1, 0);
            same("powers(8, 1)", x.powers(8, 1), 1);
            same("its columns", x.size(1, 1), 1);
            Check.put(x, 3);
            same("powers(1, 8)", x.powers(1, 8), 2);
            same("its last cell", x.cell(2, 0, 7), x.power(3, 7));
        });
        test(13, "(1 for j = 0)", (x, size) -> {
            Check.put(x, 0, size - 1);
            x.powers(2, 1);
            same("of 0 and of the greatest", Check.cellsOf(x, 0), List.of(1, 1));
            Check.put(x, 0);
            x.powers(1, 2);
            same("of 0, and 0 to the 1", Check.cellsOf(x, 1), List.of(1, 0));
        });
        test(13, "IllegalArgumentException: rows, columns;", (x, size) -> {
            for (int count : new int[] {0, 1, 9}) {
                x.drop();
                putRising(x, count);
                for (int bad : NO_SIDES) {
                    refuses(x, ARGUMENT, "powers(" + bad + ", 1)", () -> x.powers(bad, 1));
                    refuses(x, ARGUMENT, "powers(1, " + bad + ")", () -> x.powers(1, bad));
                    refuses(x, ARGUMENT, "powers(" + bad + ", " + bad + ")", () -> x.powers(bad, bad));
                }
            }
        });
        test(13, "IllegalStateException: THE ROW has not just so many members as rows", (x, size) -> {
            refuses(x, STATE, "none for 1", () -> x.powers(1, 1));
            putRising(x, 7);
            refuses(x, STATE, "7 for 8", () -> x.powers(8, 7));
            refuses(x, STATE, "7 for 6", () -> x.powers(6, 7));
            refuses(x, STATE, "7 for 1", () -> x.powers(1, 7));
            same("7 for 7", x.powers(7, 8), 0);
            putRising(x, 130);
            refuses(x, STATE, "130 for 8", () -> x.powers(8, 8));
        });
        test(13, ", or two alike;", (x, size) -> {
            int[][] rows = {{5, 5}, {0, 1, 0}, {1, 2, 3, 4, 5, 6, 7, 1}, {1, 2, 3, 4, 5, 6, 7, 7}, {0, 0}};
            for (int[] row : rows) {
                x.drop();
                Check.put(x, row);
                refuses(x, STATE, "two alike of " + row.length, () -> x.powers(row.length, 2));
            }
        });
        test(13, "UnsupportedOperationException.", (x, size) -> {
            while (x.told(1) < 39) {
                x.matrix(1, 1);
            }
            x.put(5);
            same("the last one there is room for", x.powers(1, 1), 39);
            x.put(5);
            refuses(x, ROOM, "one too many", () -> x.powers(1, 1));
        });
    }

    private static void sums() {
        test(14, "Reads THE ROW: a matrix whose cell i, j is 1 by the sum of member i and member rows + j.",
                (x, size) -> {
            int[] members = {size - 1, 0, 1, 2, 3, 7, 100, 200, 4, 5, 6, 8, 9, 10, 11, size - 2};
            Check.put(x, members);
            same("sums(8, 8)", x.sums(8, 8), 0);
            same("the row is read", x.told(0), 0);
            for (int i = 0; i < 8; i++) {
                for (int j = 0; j < 8; j++) {
                    same("cell " + i + ", " + j, x.cell(0, i, j), x.quotient(1, members[i] ^ members[8 + j]));
                }
            }
            Check.put(x, 0, 1);
            same("sums(1, 1)", x.sums(1, 1), 1);
            same("its cell", Check.cellsOf(x, 1), List.of(1));
            Check.put(x, 0, 1, 2);
            same("sums(2, 1)", x.sums(2, 1), 2);
            same("its cells", Check.cellsOf(x, 2), List.of(x.quotient(1, 2), x.quotient(1, 3)));
            Check.put(x, 0, 1, 2);
            same("sums(1, 2)", x.sums(1, 2), 3);
            same("its cells", Check.cellsOf(x, 3), List.of(1, x.quotient(1, 2)));
        });
        test(14, "IllegalArgumentException: rows, columns;", (x, size) -> {
            for (int count : new int[] {0, 2, 9, 10}) {
                x.drop();
                putRising(x, count);
                for (int bad : NO_SIDES) {
                    refuses(x, ARGUMENT, "sums(" + bad + ", 1)", () -> x.sums(bad, 1));
                    refuses(x, ARGUMENT, "sums(1, " + bad + ")", () -> x.sums(1, bad));
                    refuses(x, ARGUMENT, "sums(" + bad + ", " + bad + ")", () -> x.sums(bad, bad));
                }
                refuses(x, ARGUMENT, "sums(0, 9)", () -> x.sums(0, 9));
            }
        });
        test(14, "IllegalStateException: THE ROW has not just so many members as rows and columns together",
                (x, size) -> {
            refuses(x, STATE, "none for 1 and 1", () -> x.sums(1, 1));
            x.put(0);
            refuses(x, STATE, "1 for 1 and 1", () -> x.sums(1, 1));
            x.put(1);
            x.put(2);
            refuses(x, STATE, "3 for 1 and 1", () -> x.sums(1, 1));
            refuses(x, STATE, "3 for 3 and 1", () -> x.sums(3, 1));
            refuses(x, STATE, "3 for 1 and 3", () -> x.sums(1, 3));
            x.drop();
            putRising(x, 15);
            refuses(x, STATE, "15 for 8 and 8", () -> x.sums(8, 8));
            same("15 for 8 and 7", x.sums(8, 7), 0);
            putRising(x, 17);
            refuses(x, STATE, "17 for 8 and 8", () -> x.sums(8, 8));
            x.drop();
            putRising(x, 130);
            refuses(x, STATE, "130 for 8 and 8", () -> x.sums(8, 8));
        });
        test(14, ", or two alike;", (x, size) -> {
            int[][] rows = {{5, 5, 6, 7}, {5, 6, 7, 7}, {5, 6, 5, 7}, {5, 6, 7, 6}, {5, 6, 7, 5}, {0, 0, 1, 2}};
            for (int[] row : rows) {
                x.drop();
                Check.put(x, row);
                refuses(x, STATE, "two alike in " + Check.rowOf(x), () -> x.sums(2, 2));
            }
        });
        test(14, "UnsupportedOperationException.", (x, size) -> {
            while (x.told(1) < 39) {
                x.matrix(1, 1);
            }
            Check.put(x, 5, 6);
            same("the last one there is room for", x.sums(1, 1), 39);
            Check.put(x, 5, 6);
            refuses(x, ROOM, "one too many", () -> x.sums(1, 1));
        });
    }

    private static void size() {
        test(15, "How many rows (what = 0), columns (1).", (x, size) -> {
            x.matrix(1, 8);
            x.matrix(8, 1);
            same("rows of 1 by 8", x.size(0, 0), 1);
            same("columns of 1 by 8", x.size(0, 1), 8);
            same("rows of 8 by 1", x.size(1, 0), 8);
            same("columns of 8 by 1", x.size(1, 1), 1);
        });
        test(15, "IndexOutOfBoundsException;", (x, size) -> {
            refuses(x, INDEX, "size(0, 0) of none", () -> x.size(0, 0));
            x.matrix(2, 2);
            for (int bad : noNumbers(1)) {
                refuses(x, INDEX, "size(" + bad + ", 0)", () -> x.size(bad, 0));
                refuses(x, INDEX, "size(" + bad + ", 1)", () -> x.size(bad, 1));
            }
            Check.fillMatrices(x);
            same("of the last one", x.size(39, 0), 1);
            refuses(x, INDEX, "size(40, 0), full", () -> x.size(40, 0));
        });
        test(15, "IllegalArgumentException: what.", (x, size) -> {
            x.matrix(2, 3);
            for (int bad : new int[] {-1, 2, 3, LEAST, GREATEST}) {
                refuses(x, ARGUMENT, "size(0, " + bad + ")", () -> x.size(0, bad));
            }
        });
    }

    private static void cell() {
        test(16, "IndexOutOfBoundsException.", (x, size) -> {
            refuses(x, INDEX, "cell(0, 0, 0) of no matrix", () -> x.cell(0, 0, 0));
            Check.matrix(x, 2, 3, 1, 2, 3, 4, 5, 6);
            same("the first cell", x.cell(0, 0, 0), 1);
            same("the last of a row", x.cell(0, 0, 2), 3);
            same("the last of a column", x.cell(0, 1, 0), 4);
            same("the last cell", x.cell(0, 1, 2), 6);
            for (int bad : noNumbers(1)) {
                refuses(x, INDEX, "matrix " + bad, () -> x.cell(bad, 0, 0));
            }
            for (int bad : new int[] {-1, 2, 8, LEAST, GREATEST}) {
                refuses(x, INDEX, "row " + bad, () -> x.cell(0, bad, 0));
            }
            for (int bad : new int[] {-1, 3, 8, LEAST, GREATEST}) {
                refuses(x, INDEX, "column " + bad, () -> x.cell(0, 0, bad));
                refuses(x, INDEX, "column " + bad + " of the last row", () -> x.cell(0, 1, bad));
            }
            refuses(x, INDEX, "before the first row, behind the last column", () -> x.cell(0, -1, 3));
            refuses(x, INDEX, "behind the last row, before the first column", () -> x.cell(0, 1, -1));
        });
    }

    private static void set() {
        test(17, "A cell becomes v: what it was.", (x, size) -> {
            Check.matrix(x, 2, 2, 1, 2, 3, 4);
            x.matrix(2, 2);
            same("what it was", x.set(0, 1, 0, size - 1), 3);
            same("what it was then", x.set(0, 1, 0, 0), size - 1);
            same("to the same", x.set(0, 1, 0, 0), 0);
            same("the others stay", Check.cellsOf(x, 0), List.of(1, 2, 0, 4));
            same("the other matrix stays", Check.cellsOf(x, 1), List.of(0, 0, 0, 0));
        });
        test(17, "IndexOutOfBoundsException;", (x, size) -> {
            refuses(x, INDEX, "set(0, 0, 0, 1) of no matrix", () -> x.set(0, 0, 0, 1));
            Check.matrix(x, 2, 3, 1, 2, 3, 4, 5, 6);
            for (int bad : noNumbers(1)) {
                refuses(x, INDEX, "matrix " + bad, () -> x.set(bad, 0, 0, 9));
            }
            for (int bad : new int[] {-1, 2, 8, LEAST, GREATEST}) {
                refuses(x, INDEX, "row " + bad, () -> x.set(0, bad, 0, 9));
            }
            for (int bad : new int[] {-1, 3, 8, LEAST, GREATEST}) {
                refuses(x, INDEX, "column " + bad, () -> x.set(0, 0, bad, 9));
                refuses(x, INDEX, "column " + bad + " of the last row", () -> x.set(0, 1, bad, 9));
            }
            same("the last cell there is", x.set(0, 1, 2, 9), 6);
        });
        test(17, "IllegalArgumentException.", (x, size) -> {
            x.matrix(1, 1);
            for (int bad : noMembers(size)) {
                refuses(x, ARGUMENT, "set to " + bad, () -> x.set(0, 0, 0, bad));
            }
            same("set to the greatest", x.set(0, 0, 0, size - 1), 0);
            same("set to 0", x.set(0, 0, 0, 0), size - 1);
        });
    }

    private static void times() {
        test(18, "The product of two matrices, as a new one: its number.", (x, size) -> {
            Check.matrix(x, 1, 8, 1, 2, 3, 4, 5, 6, 7, size - 1);
            Check.matrix(x, 8, 1, 8, 7, 6, 5, 4, 3, 2, size - 1);
            int inner = 0;
            for (int k = 0; k < 8; k++) {
                inner ^= x.product(x.cell(0, 0, k), x.cell(1, k, 0));
            }
            same("1 by 8 and 8 by 1", x.times(0, 1), 2);
            same("its cell", Check.cellsOf(x, 2), List.of(inner));
            same("8 by 1 and 1 by 8", x.times(1, 0), 3);
            for (int i = 0; i < 8; i++) {
                for (int j = 0; j < 8; j++) {
                    same("cell " + i + ", " + j, x.cell(3, i, j), x.product(x.cell(1, i, 0), x.cell(0, 0, j)));
                }
            }
            Check.matrix(x, 2, 2, 0, 1, 0, 0);
            same("by itself", x.times(4, 4), 5);
            same("0 of two that are not 0", Check.cellsOf(x, 5), List.of(0, 0, 0, 0));
            same("what was multiplied stays", Check.cellsOf(x, 4), List.of(0, 1, 0, 0));
        });
        test(18, "IndexOutOfBoundsException;", (x, size) -> {
            refuses(x, INDEX, "times(0, 0) of none", () -> x.times(0, 0));
            x.matrix(1, 1);
            for (int bad : noNumbers(1)) {
                refuses(x, INDEX, "times(" + bad + ", 0)", () -> x.times(bad, 0));
                refuses(x, INDEX, "times(0, " + bad + ")", () -> x.times(0, bad));
            }
        });
        test(18, "IllegalStateException: a has not as many columns as b rows;", (x, size) -> {
            x.matrix(2, 3);
            x.matrix(2, 2);
            refuses(x, STATE, "too many columns", () -> x.times(0, 1));
            refuses(x, STATE, "by itself", () -> x.times(0, 0));
            same("as many", x.times(1, 0), 2);
            x.matrix(4, 2);
            refuses(x, STATE, "too few columns", () -> x.times(0, 3));
            same("as many, more rows", x.times(3, 0), 4);
        });
        test(18, "UnsupportedOperationException.", (x, size) -> {
            while (x.told(1) < 39) {
                x.matrix(1, 1);
            }
            same("the last one there is room for", x.times(0, 1), 39);
            refuses(x, ROOM, "one too many", () -> x.times(0, 1));
        });
    }

    private static void invert() {
        test(19, "The inverse, as a new matrix: its number;", (x, size) -> {
            Check.matrix(x, 1, 1, size - 1);
            same("of 1 by 1", x.invert(0), 1);
            same("its cell", Check.cellsOf(x, 1), List.of(x.quotient(1, size - 1)));
            for (int k = 0; k < 16; k++) {
                x.put(5 * k);
            }
            int full = x.sums(8, 8);
            same("of 8 by 8", x.invert(full), 3);
            same("both", Check.cellsOf(x, x.times(full, 3)), Check.cellsOf(x, identity(x, 8)));
            Check.matrix(x, 2, 2, 0, 3, 1, 0);
            same("with a 0 in the first place", x.invert(6), 7);
            same("its cells", Check.cellsOf(x, 7), List.of(0, 1, x.quotient(1, 3), 0));
            same("what was inverted stays", Check.cellsOf(x, 6), List.of(0, 3, 1, 0));
        });
        test(19, "NONE: there is none.", (x, size) -> {
            x.matrix(1, 1);
            x.matrix(8, 8);
            Check.matrix(x, 2, 2, 1, 2, 2, x.product(2, 2));
            Check.matrix(x, 2, 2, 0, 1, 0, 1);
            x.put(9);
            for (int matrix = 0; matrix < 4; matrix++) {
                int one = matrix;
                List<Integer> before = Check.seen(x);
                same("of matrix " + matrix, Check.outcome(() -> x.invert(one)), "-1");
                same("nothing comes of it", Check.seen(x), before);
            }
            same("the next number", x.matrix(1, 1), 4);
        });
        test(19, "IndexOutOfBoundsException;", (x, size) -> {
            refuses(x, INDEX, "invert(0) of none", () -> x.invert(0));
            identity(x, 2);
            for (int bad : noNumbers(1)) {
                refuses(x, INDEX, "invert(" + bad + ")", () -> x.invert(bad));
            }
        });
        test(19, "IllegalStateException: it is not square;", (x, size) -> {
            int[][] sides = {{1, 2}, {2, 1}, {7, 8}, {8, 7}, {1, 8}, {8, 1}};
            for (int[] side : sides) {
                int matrix = x.matrix(side[0], side[1]);
                refuses(x, STATE, "of " + side[0] + " by " + side[1], () -> x.invert(matrix));
                x.set(matrix, 0, 0, 1);
                refuses(x, STATE, "of " + side[0] + " by " + side[1] + ", not 0", () -> x.invert(matrix));
            }
        });
        test(19, "UnsupportedOperationException: also if there is none.", (x, size) -> {
            identity(x, 2);
            x.matrix(2, 2);
            while (x.told(1) < 39) {
                x.matrix(1, 1);
            }
            same("there is none, and room", x.invert(1), NONE);
            same("the last one there is room for", x.invert(0), 39);
            refuses(x, ROOM, "one too many", () -> x.invert(0));
            refuses(x, ROOM, "there is none, and no room", () -> x.invert(1));
        });
    }

    private static void rank() {
        test(20, "The most columns of which none is a sum of multiples of others.", (x, size) -> {
            x.matrix(1, 1);
            x.matrix(8, 8);
            same("of 0, 1 by 1", x.rank(0), 0);
            same("of 0, 8 by 8", x.rank(1), 0);
            same("of one that is not 0", x.rank(Check.matrix(x, 1, 1, size - 1)), 1);
            same("of eight", x.rank(identity(x, 8)), 8);
            same("of one row", x.rank(Check.matrix(x, 1, 8, 1, 2, 3, 4, 5, 6, 7, 8)), 1);
            same("of one column", x.rank(Check.matrix(x, 8, 1, 0, 0, 0, 0, 0, 0, 0, 8)), 1);
            same("of two alike", x.rank(Check.matrix(x, 2, 2, 3, 3, 5, 5)), 1);
            same("of a multiple", x.rank(Check.matrix(x, 2, 2, 1, 2, 3, 6)), 1);
            same("of no multiple", x.rank(Check.matrix(x, 2, 2, 1, 2, 3, 7)), 2);
            same("of a sum", x.rank(Check.matrix(x, 3, 3, 1, 2, 3, 0, 1, 1, 1, 0, 1)), 2);
            same("of a column of 0 ahead", x.rank(Check.matrix(x, 2, 3, 0, 0, 1, 0, 1, 0)), 2);
        });
        test(20, "IndexOutOfBoundsException.", (x, size) -> {
            refuses(x, INDEX, "rank(0) of none", () -> x.rank(0));
            x.matrix(1, 1);
            for (int bad : noNumbers(1)) {
                refuses(x, INDEX, "rank(" + bad + ")", () -> x.rank(bad));
            }
        });
    }

    private static void determinant() {
        test(21, "IndexOutOfBoundsException;", (x, size) -> {
            refuses(x, INDEX, "determinant(0) of none", () -> x.determinant(0));
            Check.matrix(x, 1, 1, size - 1);
            same("of 1 by 1", x.determinant(0), size - 1);
            for (int bad : noNumbers(1)) {
                refuses(x, INDEX, "determinant(" + bad + ")", () -> x.determinant(bad));
            }
        });
        test(21, "IllegalStateException: it is not square.", (x, size) -> {
            int[][] sides = {{1, 2}, {2, 1}, {7, 8}, {8, 7}, {1, 8}, {8, 1}};
            for (int[] side : sides) {
                int matrix = x.matrix(side[0], side[1]);
                refuses(x, STATE, "of " + side[0] + " by " + side[1], () -> x.determinant(matrix));
            }
            same("of 0, 8 by 8", x.determinant(x.matrix(8, 8)), 0);
            same("of the identity", x.determinant(identity(x, 8)), 1);
            int two = Check.matrix(x, 2, 2, 0, 3, 5, 7);
            same("with a 0 in the first place", x.determinant(two), x.product(3, 5));
            same("of multiples", x.determinant(Check.matrix(x, 2, 2, 1, 2, 3, 6)), 0);
            same("of 2 by 2", x.determinant(Check.matrix(x, 2, 2, 4, 2, 3, 7)), x.product(4, 7) ^ x.product(2, 3));
        });
    }

    private static void singular() {
        test(22, "Of all choices of as many rows as columns", (x, size) -> {
            // Of r rows and c columns there are (r + c over r) choices, less the one of none.
            same("of 0, 1 by 1", x.singular(x.matrix(1, 1)), 1);
            same("of 0, 1 by 8", x.singular(x.matrix(1, 8)), 8);
            same("of 0, 8 by 1", x.singular(x.matrix(8, 1)), 8);
            same("of 0, 2 by 8", x.singular(x.matrix(2, 8)), 44);
            same("of 0, 8 by 2", x.singular(x.matrix(8, 2)), 44);
            same("of 0, 8 by 8", x.singular(x.matrix(8, 8)), 12869);
            same("of all alike, 2 by 2", x.singular(Check.matrix(x, 2, 2, 5, 5, 5, 5)), 1);
            same("of all alike, 2 by 3", x.singular(Check.matrix(x, 2, 3, 5, 5, 5, 5, 5, 5)), 3);
            same("of all alike, 3 by 2", x.singular(Check.matrix(x, 3, 2, 5, 5, 5, 5, 5, 5)), 3);
        });
        test(22, ", one at least,", (x, size) ->
            same("of one that is not 0", x.singular(Check.matrix(x, 1, 1, 1)), 0));
        test(22, "how many make a matrix whose determinant is 0.", (x, size) -> {
            putRising(x, 16);
            same("of sums, none", x.singular(x.sums(8, 8)), 0);
            same("of the identity", x.singular(identity(x, 8)), 12869 - 255);
            same("of one cell that is 0", x.singular(Check.matrix(x, 2, 2, 1, 2, 3, 0)), 1);
            same("of the whole alone", x.singular(Check.matrix(x, 2, 2, 1, 2, 2, x.product(2, 2))), 1);
            x.set(0, 7, 7, 0);
            x.singular(1);
            same("of a cell set to 0, at least that one", x.singular(0) >= 1, true);
        });
        test(22, "IndexOutOfBoundsException.", (x, size) -> {
            refuses(x, INDEX, "singular(0) of none", () -> x.singular(0));
            x.matrix(1, 1);
            for (int bad : noNumbers(1)) {
                refuses(x, INDEX, "singular(" + bad + ")", () -> x.singular(bad));
            }
        });
    }

    private static void solved(Subject x, int matrix, int[] b, int due, Integer... row) {
        x.drop();
        Check.put(x, b);
        same("solve(" + matrix + ")", x.solve(matrix), due);
        same("the row behind solve(" + matrix + ")", Check.rowOf(x), List.of(row));
    }

    private static void solve() {
        test(23, "Reads THE ROW: members b: x with matrix x = b becomes THE ROW", (x, size) -> {
            Check.matrix(x, 1, 1, 3);
            solved(x, 0, new int[] {size - 1}, 0, x.quotient(size - 1, 3));
            solved(x, 0, new int[] {0}, 0, 0);
            Check.matrix(x, 2, 2, 0, 1, 1, 0);
            solved(x, 1, new int[] {8, 9}, 0, 9, 8);
            Check.matrix(x, 3, 1, 0, 2, 4);
            solved(x, 2, new int[] {0, 6, x.product(4, 3)}, 0, 3);
            int eight = identity(x, 8);
            solved(x, eight, new int[] {8, 7, 6, 5, 4, 3, 2, 1}, 0, 8, 7, 6, 5, 4, 3, 2, 1);
            same("the matrix stays", x.cell(1, 0, 0), 0);
        });
        test(23, ", each x j being 0 whose column is a sum of multiples of columns ahead of it", (x, size) -> {
            Check.matrix(x, 1, 2, 1, 1);
            solved(x, 0, new int[] {5}, 1, 5, 0);
            Check.matrix(x, 1, 2, 0, 1);
            solved(x, 1, new int[] {5}, 1, 0, 5);
            Check.matrix(x, 2, 4, 1, 2, 0, 3, 1, 2, 1, 7);
            solved(x, 2, new int[] {4, 6}, 2, 4, 0, 2, 0);
            Check.matrix(x, 1, 8, 0, 0, 0, 0, 0, 0, 0, 1);
            solved(x, 3, new int[] {9}, 7, 0, 0, 0, 0, 0, 0, 0, 9);
        });
        test(23, ": how many such columns there are;", (x, size) -> {
            x.matrix(1, 1);
            solved(x, 0, new int[] {0}, 1, 0);
            x.matrix(8, 8);
            solved(x, 1, new int[8], 8, 0, 0, 0, 0, 0, 0, 0, 0);
            x.matrix(1, 8);
            solved(x, 2, new int[1], 8, 0, 0, 0, 0, 0, 0, 0, 0);
            x.matrix(8, 1);
            solved(x, 3, new int[8], 1, 0);
            Check.matrix(x, 2, 3, 1, 2, 3, 1, 2, 4);
            solved(x, 4, new int[] {0, 0}, 1, 0, 0, 0);
            solved(x, identity(x, 8), new int[8], 0, 0, 0, 0, 0, 0, 0, 0, 0);
        });
    }

    private static void solveRefused() {
        test(23, "NONE: there is no such x.", (x, size) -> {
            x.matrix(1, 1);
            solved(x, 0, new int[] {1}, NONE);
            x.matrix(8, 8);
            solved(x, 1, new int[] {0, 0, 0, 0, 0, 0, 0, 1}, NONE);
            Check.matrix(x, 2, 1, 1, 1);
            solved(x, 2, new int[] {1, 2}, NONE);
            solved(x, 2, new int[] {2, 2}, 0, 2);
            Check.matrix(x, 2, 2, 1, 2, 1, 2);
            solved(x, 3, new int[] {1, 2}, NONE);
            Check.matrix(x, 3, 2, 1, 0, 0, 1, 1, 1);
            solved(x, 4, new int[] {1, 2, 4}, NONE);
            solved(x, 4, new int[] {1, 2, 3}, 0, 1, 2);
        });
        test(23, "IndexOutOfBoundsException;", (x, size) -> {
            refuses(x, INDEX, "solve(0) of none", () -> x.solve(0));
            x.matrix(1, 1);
            x.put(1);
            for (int bad : noNumbers(1)) {
                refuses(x, INDEX, "solve(" + bad + ")", () -> x.solve(bad));
            }
        });
        test(23, "IllegalStateException: THE ROW has not just so many members as the matrix rows.", (x, size) -> {
            x.matrix(1, 2);
            x.matrix(2, 1);
            x.matrix(8, 1);
            refuses(x, STATE, "none for 1", () -> x.solve(0));
            x.put(0);
            refuses(x, STATE, "1 for 2", () -> x.solve(1));
            x.put(0);
            refuses(x, STATE, "2 for 1", () -> x.solve(0));
            x.put(0);
            refuses(x, STATE, "3 for 2", () -> x.solve(1));
            putMany(x, 4, 0);
            refuses(x, STATE, "7 for 8", () -> x.solve(2));
            x.put(0);
            same("8 for 8", x.solve(2), 1);
            putMany(x, 8, 0);
            refuses(x, STATE, "9 for 8", () -> x.solve(2));
            putMany(x, 121, 0);
            refuses(x, STATE, "130 for 8", () -> x.solve(2));
        });
    }
}
