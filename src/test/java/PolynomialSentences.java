import java.util.ArrayList;
import java.util.Collections;
import java.util.List;

/** Promises 24 to 35, sentence by sentence. */
final class PolynomialSentences extends Sentences {
    static void all() {
        polynomial();
        through();
        throughRefused();
        degree();
        coefficient();
        value();
        plus();
        multiply();
        divide();
        divideRefused();
        common();
        root();
        rootRefused();
        often();
        parts();
        partsRefused();
    }

    /** Room for just one more. */
    private static void fillButOne(Subject x) {
        List<Integer> members = Check.rowOf(x);
        x.drop();
        while (x.told(2) < 39) {
            x.polynomial();
        }
        members.forEach(x::put);
    }

    private static List<Integer> coefficients(Subject x, int p) {
        return Check.coefficientsOf(x, p);
    }

    private static int[] reversed(int... numbers) {
        int[] made = new int[numbers.length];
        for (int k = 0; k < numbers.length; k++) {
            made[k] = numbers[numbers.length - 1 - k];
        }
        return made;
    }

    private static void polynomial() {
        test(24, "Reads THE ROW: its members are the coefficients of x to the 0, 1, ..: the polynomial's number.",
                (x, size) -> {
            same("of none", x.polynomial(), 0);
            same("its degree", x.degree(0), NONE);
            Check.put(x, size - 1, 0, 7);
            same("of three", x.polynomial(), 1);
            same("the row is read", x.told(0), 0);
            same("its coefficients", coefficients(x, 1), List.of(size - 1, 0, 7));
            putMany(x, 65, 3);
            same("of 65", x.polynomial(), 2);
            same("its coefficients", coefficients(x, 2), Collections.nCopies(65, 3));
            putMany(x, 130, 0);
            same("of 130 that are 0", x.polynomial(), 3);
            same("its degree", x.degree(3), NONE);
        });
        test(24, "UnsupportedOperationException", (x, size) -> {
            fillButOne(x);
            x.put(4);
            same("the last one there is room for", x.polynomial(), 39);
            refuses(x, ROOM, "one too many, of none", x::polynomial);
            x.put(4);
            refuses(x, ROOM, "one too many", x::polynomial);
        });
        test(24, ": also a DEGREE above 64.", (x, size) -> {
            putMany(x, 64, 0);
            x.put(1);
            putMany(x, 65, 0);
            same("DEGREE 64, 130 members", x.polynomial(), 0);
            same("its degree", x.degree(0), 64);
            putMany(x, 65, 1);
            x.put(1);
            refuses(x, ROOM, "DEGREE 65", x::polynomial);
            x.drop();
            putMany(x, 65, 0);
            x.put(1);
            putMany(x, 64, 0);
            refuses(x, ROOM, "DEGREE 65, zeros around", x::polynomial);
            x.drop();
            putMany(x, 129, 0);
            x.put(1);
            refuses(x, ROOM, "DEGREE 129", x::polynomial);
        });
    }

    private static void through() {
        test(25, "Reads THE ROW as x, y, x, y, ..: the polynomial of the least DEGREE with these values y at x: its"
                + " number.", (x, size) -> {
            same("through none", x.through(), 0);
            same("0, as the least", x.degree(0), NONE);
            Check.put(x, size - 1, 0);
            same("through a value 0", x.degree(x.through()), NONE);
            Check.put(x, 0, size - 1);
            same("through one", coefficients(x, x.through()), List.of(size - 1));
            Check.put(x, 0, 9, 1, 9, size - 1, 9);
            same("through one value thrice", coefficients(x, x.through()), List.of(9));
            Check.put(x, 0, 5, 1, 4);
            same("through two", coefficients(x, x.through()), List.of(5, 1));
            same("the row is read", x.told(0), 0);
            Check.put(x, 3, 3, 2, 2, 1, 1, 0, 0);
            same("through four of a line", coefficients(x, x.through()), List.of(0, 1));
            // A polynomial with 64 roots that is not 0 has no lower DEGREE.
            for (int member = 0; member < 65; member++) {
                Check.put(x, member, member == 64 ? 1 : 0);
            }
            int most = x.through();
            same("through 65", x.degree(most), 64);
            same("a value of theirs", x.value(most, 63), 0);
            same("their last value", x.value(most, 64), 1);
        });
    }

    private static void throughRefused() {
        test(25, "IllegalStateException: an odd number of members", (x, size) -> {
            x.put(1);
            refuses(x, STATE, "of 1", x::through);
            Check.put(x, 2, 3);
            refuses(x, STATE, "of 3", x::through);
            putRising(x, 126);
            refuses(x, STATE, "of 129", x::through);
        });
        test(25, ", two x alike;", (x, size) -> {
            int[][] rows = {{1, 2, 1, 2}, {1, 2, 1, 3}, {0, 1, 0, 1}, {1, 9, 2, 9, 1, 9}, {3, 9, 2, 9, 2, 8}};
            for (int[] row : rows) {
                x.drop();
                Check.put(x, row);
                refuses(x, STATE, "in " + Check.rowOf(x), x::through);
            }
            x.drop();
            for (int member = 0; member < 65; member++) {
                Check.put(x, member % 64, 0);
            }
            refuses(x, STATE, "the first and the last of 65", x::through);
            x.drop();
            Check.put(x, 1, 2, 2, 2, 3, 2);
            same("y alike, and x as y", Check.outcome(x::through), "0");
        });
        test(25, "UnsupportedOperationException.", (x, size) -> {
            fillButOne(x);
            Check.put(x, 4, 5);
            same("the last one there is room for", x.through(), 39);
            refuses(x, ROOM, "one too many, of none", x::through);
            Check.put(x, 4, 5);
            refuses(x, ROOM, "one too many", x::through);
        });
    }

    private static void degree() {
        test(26, "The DEGREE.", (x, size) -> {
            same("of 0", x.degree(Check.polynomial(x)), NONE);
            same("of zeros", x.degree(Check.polynomial(x, 0, 0)), NONE);
            same("of a constant", x.degree(Check.polynomial(x, 1)), 0);
            same("of a line", x.degree(Check.polynomial(x, 0, 1)), 1);
            same("of the greatest", x.degree(Check.ones(x, 64)), 64);
        });
        test(26, "IndexOutOfBoundsException.", (x, size) -> {
            refuses(x, INDEX, "degree(0) of none", () -> x.degree(0));
            x.polynomial();
            for (int bad : noNumbers(1)) {
                refuses(x, INDEX, "degree(" + bad + ")", () -> x.degree(bad));
            }
            Check.fillPolynomials(x);
            same("of the last one", x.degree(39), NONE);
            refuses(x, INDEX, "degree(40), full", () -> x.degree(40));
        });
    }

    private static void coefficient() {
        test(27, "The coefficient of x to the k", (x, size) -> {
            int[] all = new int[65];
            for (int k = 0; k < 65; k++) {
                all[k] = size - 1 - k;
            }
            Check.polynomial(x, all);
            for (int k = 0; k < 65; k++) {
                same("coefficient(0, " + k + ")", x.coefficient(0, k), size - 1 - k);
            }
        });
        test(27, "; 0 above the DEGREE.", (x, size) -> {
            int[] degrees = {NONE, 0, 1, 63, 64};
            for (int degree : degrees) {
                int p = degree < 0 ? Check.polynomial(x) : Check.ones(x, degree);
                for (int k : new int[] {degree + 1, degree + 2, 65, 66, 129, 130, GREATEST}) {
                    same("coefficient " + k + " of DEGREE " + degree, x.coefficient(p, k), 0);
                }
            }
        });
        test(27, "IndexOutOfBoundsException", (x, size) -> {
            refuses(x, INDEX, "coefficient(0, 0) of none", () -> x.coefficient(0, 0));
            x.polynomial();
            for (int bad : noNumbers(1)) {
                refuses(x, INDEX, "coefficient(" + bad + ", 0)", () -> x.coefficient(bad, 0));
            }
        });
        test(27, ": also k is below 0.", (x, size) -> {
            x.polynomial();
            Check.ones(x, 64);
            for (int k : new int[] {-1, -2, LEAST}) {
                refuses(x, INDEX, "coefficient(0, " + k + ")", () -> x.coefficient(0, k));
                refuses(x, INDEX, "coefficient(1, " + k + ")", () -> x.coefficient(1, k));
            }
        });
    }

    private static void value() {
        test(28, "The value at x.", (x, size) -> {
            Check.polynomial(x);
            Check.polynomial(x, size - 1);
            Check.polynomial(x, 5, 0, 3);
            Check.ones(x, 64);
            for (int member : new int[] {0, 1, 2, size - 1}) {
                same("of 0 at " + member, x.value(0, member), 0);
                same("of a constant at " + member, x.value(1, member), size - 1);
                int due = 5 ^ x.product(3, x.product(member, member));
                same("of three at " + member, x.value(2, member), due);
                same("of x to the 64 at " + member, x.value(3, member), x.power(member, 64));
            }
        });
        test(28, "IndexOutOfBoundsException;", (x, size) -> {
            refuses(x, INDEX, "value(0, 0) of none", () -> x.value(0, 0));
            x.polynomial();
            for (int bad : noNumbers(1)) {
                refuses(x, INDEX, "value(" + bad + ", 0)", () -> x.value(bad, 0));
            }
        });
        test(28, "IllegalArgumentException.", (x, size) -> {
            x.polynomial();
            Check.polynomial(x, 1, 2);
            for (int bad : noMembers(size)) {
                refuses(x, ARGUMENT, "value of 0 at " + bad, () -> x.value(0, bad));
                refuses(x, ARGUMENT, "value at " + bad, () -> x.value(1, bad));
            }
        });
    }

    private static void plus() {
        test(29, "The sum, as a new polynomial: its number.", (x, size) -> {
            int zero = Check.polynomial(x);
            int high = Check.ones(x, 64, 1);
            int other = Check.ones(x, 64, 0);
            int low = Check.polynomial(x, size - 1);
            x.put(9);
            same("the number", x.plus(high, other), 4);
            same("the row stays", Check.rowOf(x), List.of(9));
            same("the highest falls away", coefficients(x, 4), List.of(1, 1));
            same("all falls away", x.degree(x.plus(high, high)), NONE);
            same("0 and 0", x.degree(x.plus(zero, zero)), NONE);
            same("with 0", coefficients(x, x.plus(low, zero)), List.of(size - 1));
            same("of 0", coefficients(x, x.plus(zero, low)), List.of(size - 1));
            same("with a higher one", x.degree(x.plus(low, high)), 64);
            same("with a lower one", x.coefficient(x.plus(high, low), 0), size - 1);
            same("what was added stays", x.degree(high), 64);
        });
        test(29, "IndexOutOfBoundsException;", (x, size) -> {
            refuses(x, INDEX, "plus(0, 0) of none", () -> x.plus(0, 0));
            x.polynomial();
            for (int bad : noNumbers(1)) {
                refuses(x, INDEX, "plus(" + bad + ", 0)", () -> x.plus(bad, 0));
                refuses(x, INDEX, "plus(0, " + bad + ")", () -> x.plus(0, bad));
            }
        });
        test(29, "UnsupportedOperationException.", (x, size) -> {
            fillButOne(x);
            same("the last one there is room for", x.plus(0, 1), 39);
            refuses(x, ROOM, "one too many", () -> x.plus(0, 1));
        });
    }

    private static void multiply() {
        test(30, "The product, as a new one: its number.", (x, size) -> {
            int zero = Check.polynomial(x);
            int two = Check.polynomial(x, 2);
            int line = Check.polynomial(x, 3, 2);
            x.put(9);
            same("the number", x.multiply(line, line), 3);
            same("the row stays", Check.rowOf(x), List.of(9));
            same("a square", coefficients(x, 3), List.of(5, 0, 4));
            same("by a constant", coefficients(x, x.multiply(two, line)), List.of(6, 4));
            same("by 0", x.degree(x.multiply(line, zero)), NONE);
            same("of 0", x.degree(x.multiply(zero, line)), NONE);
            same("0 by 0", x.degree(x.multiply(zero, zero)), NONE);
            same("what was multiplied stays", coefficients(x, line), List.of(3, 2));
        });
        test(30, "IndexOutOfBoundsException;", (x, size) -> {
            refuses(x, INDEX, "multiply(0, 0) of none", () -> x.multiply(0, 0));
            x.polynomial();
            for (int bad : noNumbers(1)) {
                refuses(x, INDEX, "multiply(" + bad + ", 0)", () -> x.multiply(bad, 0));
                refuses(x, INDEX, "multiply(0, " + bad + ")", () -> x.multiply(0, bad));
            }
        });
        test(30, "UnsupportedOperationException", (x, size) -> {
            fillButOne(x);
            same("the last one there is room for", x.multiply(0, 1), 39);
            refuses(x, ROOM, "one too many", () -> x.multiply(0, 1));
        });
        test(30, ": also a DEGREE above 64.", (x, size) -> {
            int zero = Check.polynomial(x);
            int one = Check.polynomial(x, 1);
            int line = Check.polynomial(x, 0, 1);
            int p31 = Check.ones(x, 31);
            int p32 = Check.ones(x, 32);
            int p33 = Check.ones(x, 33);
            int p64 = Check.ones(x, 64);
            same("31 and 33", x.degree(x.multiply(p31, p33)), 64);
            same("32 and 32", x.degree(x.multiply(p32, p32)), 64);
            same("0 and 64", x.degree(x.multiply(one, p64)), 64);
            same("64 and 0", x.degree(x.multiply(p64, one)), 64);
            same("NONE and 64", x.degree(x.multiply(zero, p64)), NONE);
            same("64 and NONE", x.degree(x.multiply(p64, zero)), NONE);
            refuses(x, ROOM, "32 and 33", () -> x.multiply(p32, p33));
            refuses(x, ROOM, "1 and 64", () -> x.multiply(line, p64));
            refuses(x, ROOM, "64 and 1", () -> x.multiply(p64, line));
            refuses(x, ROOM, "64 and 64", () -> x.multiply(p64, p64));
        });
    }

    private static void divide() {
        test(31, "p by q, as a new one: the quotient", (x, size) -> {
            int zero = Check.polynomial(x);
            int seven = Check.polynomial(x, 7);
            int line = Check.polynomial(x, 3, 2);
            int product = Check.polynomial(x, 5, 1, 4);
            x.put(9);
            // (3 + 2 x) (3 + 2 x) + x
            same("the number", x.divide(product, line, false), 4);
            same("the row stays", Check.rowOf(x), List.of(9));
            int again = x.plus(x.multiply(4, line), x.divide(product, line, true));
            same("quotient and rest", coefficients(x, again), List.of(5, 1, 4));
            same("by itself", coefficients(x, x.divide(line, line, false)), List.of(1));
            same("by a higher one", x.degree(x.divide(line, product, false)), NONE);
            same("of 0", x.degree(x.divide(zero, line, false)), NONE);
            same("of a constant by a constant", coefficients(x, x.divide(seven, seven, false)), List.of(1));
            int most = Check.ones(x, 64);
            same("of the greatest by a line", x.degree(x.divide(most, line, false)), 63);
            same("of the greatest by a constant", x.coefficient(x.divide(most, seven, false), 64), x.quotient(1, 7));
            same("of the greatest by itself", coefficients(x, x.divide(most, most, false)), List.of(1));
        });
        test(31, ", or (rest) the rest, of a lower DEGREE than q: its number.", (x, size) -> {
            int zero = Check.polynomial(x);
            int seven = Check.polynomial(x, 7);
            int line = Check.polynomial(x, 3, 1);
            int square = Check.polynomial(x, 5, 1, 4);
            same("the number", x.divide(square, line, true), 4);
            same("by a line: the value", coefficients(x, 4), List.of(x.value(square, 3)));
            same("by a constant", x.degree(x.divide(square, seven, true)), NONE);
            same("by itself", x.degree(x.divide(square, square, true)), NONE);
            same("by a higher one", coefficients(x, x.divide(line, square, true)), List.of(3, 1));
            same("of 0", x.degree(x.divide(zero, line, true)), NONE);
            same("of a constant by a line", coefficients(x, x.divide(seven, line, true)), List.of(7));
            int most = Check.ones(x, 64, 2);
            same("of x to the 64 by a square", x.degree(x.divide(most, square, true)) < 2, true);
            same("by one of the same DEGREE", coefficients(x, x.divide(most, Check.ones(x, 64, 1), true)),
                    List.of(0, 1, 1));
            same("what was divided stays", x.degree(most), 64);
        });
    }

    private static void divideRefused() {
        test(31, "IndexOutOfBoundsException;", (x, size) -> {
            refuses(x, INDEX, "divide(0, 0) of none", () -> x.divide(0, 0, false));
            Check.polynomial(x, 1);
            for (int bad : noNumbers(1)) {
                for (boolean rest : new boolean[] {false, true}) {
                    refuses(x, INDEX, "divide(" + bad + ", 0)", () -> x.divide(bad, 0, rest));
                    refuses(x, INDEX, "divide(0, " + bad + ")", () -> x.divide(0, bad, rest));
                }
            }
        });
        test(31, "ArithmeticException: q is 0;", (x, size) -> {
            int zero = Check.polynomial(x);
            int zeros = Check.polynomial(x, 0, 0, 0);
            int line = Check.polynomial(x, 0, 1);
            for (boolean rest : new boolean[] {false, true}) {
                refuses(x, ARITHMETIC, "a line by 0", () -> x.divide(line, zero, rest));
                refuses(x, ARITHMETIC, "a line by zeros", () -> x.divide(line, zeros, rest));
                refuses(x, ARITHMETIC, "0 by 0", () -> x.divide(zero, zeros, rest));
                same("0 by a line", x.degree(x.divide(zero, line, rest)), NONE);
            }
        });
        test(31, "UnsupportedOperationException.", (x, size) -> {
            Check.polynomial(x, 5);
            fillButOne(x);
            same("the last one there is room for", x.divide(0, 0, false), 39);
            refuses(x, ROOM, "one too many, a quotient", () -> x.divide(0, 0, false));
            refuses(x, ROOM, "one too many, a rest", () -> x.divide(0, 0, true));
        });
    }

    private static void common() {
        test(32, "The polynomial of the greatest DEGREE by which both leave no rest", (x, size) -> {
            int p = withRoots(x, 1, 1, 2, size - 1);
            int q = withRoots(x, 0, 1, 1, 1, size - 1);
            int due = withRoots(x, 1, 1, size - 1);
            same("the number", x.common(p, q), 3);
            same("of two", coefficients(x, 3), coefficients(x, due));
            same("the other way round", coefficients(x, x.common(q, p)), coefficients(x, due));
            same("nothing but 1", coefficients(x, x.common(withRoots(x, 4), withRoots(x, 5))), List.of(1));
            same("of itself", coefficients(x, x.common(p, p)), coefficients(x, p));
            int most = Check.ones(x, 64);
            same("of the greatest and itself", x.degree(x.common(most, most)), 64);
            same("of the greatest and x", coefficients(x, x.common(most, Check.polynomial(x, 0, 5))), List.of(0, 1));
            same("what was looked at stays", x.degree(q), 5);
        });
        test(32, ", its highest coefficient 1", (x, size) -> {
            int line = Check.polynomial(x, 3, 2);
            int zero = Check.polynomial(x);
            List<Integer> due = List.of(x.quotient(3, 2), 1);
            same("of itself", coefficients(x, x.common(line, line)), due);
            same("with 0", coefficients(x, x.common(line, zero)), due);
            same("of 0", coefficients(x, x.common(zero, line)), due);
            int constant = Check.polynomial(x, size - 1);
            same("with a constant", coefficients(x, x.common(line, constant)), List.of(1));
            same("of a constant", coefficients(x, x.common(constant, line)), List.of(1));
            same("of a constant and 0", coefficients(x, x.common(constant, zero)), List.of(1));
            same("of 0 and a constant", coefficients(x, x.common(zero, constant)), List.of(1));
        });
        test(32, "(0 of both 0), as a new one: its number.", (x, size) -> {
            int zero = Check.polynomial(x);
            int zeros = Check.polynomial(x, 0, 0);
            same("the number", x.common(zero, zeros), 2);
            same("of both 0", x.degree(2), NONE);
            same("of 0 and itself", x.degree(x.common(zero, zero)), NONE);
        });
        test(32, "IndexOutOfBoundsException;", (x, size) -> {
            refuses(x, INDEX, "common(0, 0) of none", () -> x.common(0, 0));
            x.polynomial();
            for (int bad : noNumbers(1)) {
                refuses(x, INDEX, "common(" + bad + ", 0)", () -> x.common(bad, 0));
                refuses(x, INDEX, "common(0, " + bad + ")", () -> x.common(0, bad));
            }
        });
        test(32, "UnsupportedOperationException.", (x, size) -> {
            fillButOne(x);
            same("the last one there is room for", x.common(0, 1), 39);
            refuses(x, ROOM, "one too many", () -> x.common(0, 1));
        });
    }

    private static int[] spread(int size) {
        int[] members = new int[64];
        for (int k = 0; k < 64; k++) {
            members[k] = size / 64 * k + k % 3;
        }
        members[63] = size - 1;
        return members;
    }

    private static int[] rising(int least) {
        int[] members = new int[64];
        for (int k = 0; k < 64; k++) {
            members[k] = least + k;
        }
        return members;
    }

    private static void root() {
        test(33, "The k-th member, from 0 on, rising, at which the value is 0", (x, size) -> {
            int line = Check.polynomial(x, 6, 3);
            same("of a line", x.root(line, 0), x.quotient(6, 3));
            int two = withRoots(x, size - 1, 0);
            same("the least member", x.root(two, 0), 0);
            same("the greatest member", x.root(two, 1), size - 1);
            int alike = withRoots(x, 9, 9, 9, 4);
            same("one that is there once", x.root(alike, 0), 4);
            same("one that is there thrice, once", x.root(alike, 1), 9);
            int half = size / 2;
            int[][] sets = {spread(size), {6, 7}, {half - 1, half}, {half, half + 1}, {half + 4, half + 5, half + 6},
                {size - 2, size - 1}, {1, 2, 3, 4, 5}, {half - 3, half - 2, size - 4, size - 1}};
            for (int[] members : sets) {
                int p = withRoots(x, reversed(members));
                for (int k = 0; k < members.length; k++) {
                    same("root " + k + " of " + members.length, x.root(p, k), members[k]);
                }
            }
            // Of the greatest DEGREE with 0 and without, all as low and all as high as can be.
            for (int least : new int[] {0, 1, half - 32, size - 64}) {
                int p = withRoots(x, rising(least));
                for (int k = 0; k < 64; k++) {
                    same("root " + k + " from " + least, x.root(p, k), least + k);
                }
            }
            int zero = Check.polynomial(x);
            for (int k : new int[] {0, 1, size / 2, size - 2, size - 1}) {
                same("root " + k + " of 0", x.root(zero, k), k);
            }
        });
    }

    private static void rootRefused() {
        test(33, "; NONE: there are not so many.", (x, size) -> {
            int zero = Check.polynomial(x);
            same("of 0", x.root(zero, size), NONE);
            same("of 0, far behind", x.root(zero, GREATEST), NONE);
            int constant = Check.polynomial(x, 1);
            same("of a constant", x.root(constant, 0), NONE);
            same("of a constant, far behind", x.root(constant, GREATEST), NONE);
            int alike = withRoots(x, 9, 9, 9);
            same("of one root", x.root(alike, 1), NONE);
            int most = withRoots(x, spread(size));
            same("of 64 roots", x.root(most, 64), NONE);
            same("of 64 roots, far behind", x.root(most, GREATEST), NONE);
            int none = x.multiply(unsplitSquare(x, size), unsplitSquare(x, size));
            same("of no root", x.root(none, 0), NONE);
            same("of one root and more", x.root(x.multiply(none, withRoots(x, 3)), 1), NONE);
        });
        test(33, "IndexOutOfBoundsException", (x, size) -> {
            refuses(x, INDEX, "root(0, 0) of none", () -> x.root(0, 0));
            x.polynomial();
            for (int bad : noNumbers(1)) {
                refuses(x, INDEX, "root(" + bad + ", 0)", () -> x.root(bad, 0));
            }
        });
        test(33, ": also k is below 0.", (x, size) -> {
            Check.polynomial(x);
            Check.polynomial(x, 1);
            withRoots(x, 1, 2);
            for (int p = 0; p < 3; p++) {
                int one = p;
                for (int k : new int[] {-1, -2, LEAST}) {
                    refuses(x, INDEX, "root(" + p + ", " + k + ")", () -> x.root(one, k));
                }
            }
        });
    }

    /** x squared + x + c is one part for half of all c: here for the least, found by trying every member. */
    private static int unsplitSquare(Subject x, int size) {
        boolean[] made = new boolean[size];
        for (int member = 0; member < size; member++) {
            made[SlowField.product(bits(size), x.poly(), member, member) ^ member] = true;
        }
        int c = 0;
        while (made[c]) {
            c++;
        }
        return Check.polynomial(x, c, 1, 1);
    }

    private static void often() {
        test(34, "How often, one after another, it can be divided by x + v without rest", (x, size) -> {
            int p = withRoots(x, 0, 0, 7, size - 1, size - 1, size - 1);
            same("0, twice", x.often(p, 0), 2);
            same("7, once", x.often(p, 7), 1);
            same("the greatest, thrice", x.often(p, size - 1), 3);
            same("1, never", x.often(p, 1), 0);
            same("a constant, never", x.often(Check.polynomial(x, 1), 0), 0);
            same("a constant, never by x + 1", x.often(Check.polynomial(x, 1), 1), 0);
            same("x to the 64", x.often(Check.ones(x, 64), 0), 64);
            same("x + 1 to the 64", x.often(Check.ones(x, 64, 0), 1), 64);
            same("x + 1 to the 64, by x", x.often(Check.ones(x, 64, 0), 0), 0);
            same("what was divided stays", x.degree(p), 6);
        });
        test(34, "; NONE of 0.", (x, size) -> {
            int zero = Check.polynomial(x);
            int zeros = Check.polynomial(x, 0, 0);
            for (int v : new int[] {0, 1, size - 1}) {
                same("of 0 by " + v, x.often(zero, v), NONE);
                same("of zeros by " + v, x.often(zeros, v), NONE);
            }
        });
        test(34, "IndexOutOfBoundsException;", (x, size) -> {
            refuses(x, INDEX, "often(0, 0) of none", () -> x.often(0, 0));
            x.polynomial();
            for (int bad : noNumbers(1)) {
                refuses(x, INDEX, "often(" + bad + ", 0)", () -> x.often(bad, 0));
            }
        });
        test(34, "IllegalArgumentException.", (x, size) -> {
            Check.polynomial(x);
            Check.polynomial(x, 1);
            withRoots(x, 1);
            for (int p = 0; p < 3; p++) {
                int one = p;
                for (int bad : noMembers(size)) {
                    refuses(x, ARGUMENT, "often(" + p + ", " + bad + ")", () -> x.often(one, bad));
                }
            }
        });
    }

    private static List<Integer> partsOf(Subject x, int p) {
        List<Integer> degrees = new ArrayList<>();
        for (int d = 1; d <= 64; d++) {
            degrees.addAll(Collections.nCopies(x.parts(p, d), d));
        }
        return degrees;
    }

    /** x to the 64 + 3 x to the k + x + c, found by search with Model: none of its parts has a degree up to 32. */
    private static int unsplitMost(Subject x) {
        int k = x.poly() == 29 || x.poly() == 27 ? 7 : 3;
        int c = x.poly() == 29 ? 4 : x.poly() == 27 ? 13 : x.poly() == 4107 ? 23 : 26;
        int[] coefficients = new int[65];
        coefficients[0] = c;
        coefficients[1] = 1;
        coefficients[k] = 3;
        coefficients[64] = 1;
        return Check.polynomial(x, coefficients);
    }

    private static void parts() {
        test(35, "Of the polynomials that are no products of two of lower DEGREES above 0, and that make it as a"
                + " product, how many have DEGREE d", (x, size) -> {
            same("of a constant", partsOf(x, Check.polynomial(x, 5)), List.of());
            same("of a line", partsOf(x, Check.polynomial(x, 5, 7)), List.of(1));
            same("of one part of DEGREE 2", partsOf(x, unsplitSquare(x, size)), List.of(2));
            same("of two roots", partsOf(x, withRoots(x, 0, size - 1)), List.of(1, 1));
            same("of 64 roots", partsOf(x, withRoots(x, spread(size))), Collections.nCopies(64, 1));
            same("of one part of DEGREE 64", partsOf(x, unsplitMost(x)), List.of(64));
            // x to the 61 + x to the 5 + x squared + x + 1 is one part over bits, and 61 is odd.
            int p61 = Check.ones(x, 61, 5, 2, 1, 0);
            same("of one part of DEGREE 61", partsOf(x, p61), List.of(61));
            int p64 = x.multiply(p61, withRoots(x, 4, 4, 4));
            same("of that one and lower ones", partsOf(x, p64), List.of(1, 1, 1, 61));
            int p31 = Check.ones(x, 31, 3, 0);
            int p33 = x.multiply(p31, unsplitSquare(x, size));
            same("of two parts", partsOf(x, p33), List.of(2, 31));
            same("what was looked at stays", x.degree(p61), 61);
        });
        test(35, "(each as often as it is there", (x, size) -> {
            same("x to the 64", partsOf(x, Check.ones(x, 64)), Collections.nCopies(64, 1));
            same("x + 1 to the 64", partsOf(x, Check.ones(x, 64, 0)), Collections.nCopies(64, 1));
            same("the greatest member's, twice", partsOf(x, withRoots(x, size - 1, size - 1)), List.of(1, 1));
            int square = unsplitSquare(x, size);
            int four = x.multiply(square, square);
            int six = x.multiply(four, square);
            same("twice", partsOf(x, four), List.of(2, 2));
            same("thrice", partsOf(x, six), List.of(2, 2, 2));
            int p31 = Check.ones(x, 31, 3, 0);
            same("twice of a high DEGREE", partsOf(x, x.multiply(p31, p31)), List.of(31, 31));
            same("of two kinds", partsOf(x, x.multiply(six, withRoots(x, 7, 7, 8))), List.of(1, 1, 1, 2, 2, 2));
            int p32 = six;
            while (x.degree(p32) < 64) {
                p32 = x.multiply(p32, x.degree(p32) > 32 ? square : x.degree(p32) > 16 ? six : p32);
            }
            same("32 times", partsOf(x, p32), Collections.nCopies(32, 2));
        });
    }

    private static void partsRefused() {
        test(35, "; NONE of 0).", (x, size) -> {
            int zero = Check.polynomial(x);
            int zeros = Check.polynomial(x, 0, 0);
            for (int d = 1; d <= 64; d++) {
                same("of 0, DEGREE " + d, x.parts(zero, d), NONE);
                same("of zeros, DEGREE " + d, x.parts(zeros, d), NONE);
            }
        });
        test(35, "IndexOutOfBoundsException;", (x, size) -> {
            refuses(x, INDEX, "parts(0, 1) of none", () -> x.parts(0, 1));
            x.polynomial();
            for (int bad : noNumbers(1)) {
                refuses(x, INDEX, "parts(" + bad + ", 1)", () -> x.parts(bad, 1));
            }
        });
        test(35, "IllegalArgumentException: d is not 1 .. 64.", (x, size) -> {
            Check.polynomial(x);
            Check.polynomial(x, 1);
            Check.ones(x, 64);
            for (int p = 0; p < 3; p++) {
                int one = p;
                for (int bad : new int[] {0, 65, -1, 130, LEAST, GREATEST}) {
                    refuses(x, ARGUMENT, "parts(" + p + ", " + bad + ")", () -> x.parts(one, bad));
                }
            }
            same("the least d", x.parts(2, 1), 64);
            same("the greatest d", x.parts(2, 64), 0);
        });
    }
}
