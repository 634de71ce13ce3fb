import java.util.ArrayList;
import java.util.List;
import java.util.Random;

/** Promises 24 to 35. */
public final class PolynomialTest {
    private static final Class<IllegalArgumentException> ARGUMENT = IllegalArgumentException.class;
    private static final Class<IllegalStateException> STATE = IllegalStateException.class;
    private static final Class<IndexOutOfBoundsException> INDEX = IndexOutOfBoundsException.class;
    private static final Class<ArithmeticException> ARITHMETIC = ArithmeticException.class;
    private static final Class<UnsupportedOperationException> ROOM = UnsupportedOperationException.class;

    public static void main(String[] args) {
        for (int bits : new int[] {8, 16}) {
            madeFromRow(bits);
            through(bits);
            degreesAndValues(bits);
            sums(bits);
            products(bits);
            quotients(bits);
            commonDivisors(bits);
            roots(bits);
            manyRoots(bits);
            often(bits);
            partsOfKnown(bits);
            wrongNumbers(bits);
            noRoom(bits);
        }
        partsByTrial();
        partsOverBits();
        Check.end();
    }

    private static Subject made(int bits) {
        return new Subject(bits, bits == 8 ? 27 : 4107);
    }

    private static void madeFromRow(int bits) {
        Subject x = made(bits);
        Check.same("polynomial of no members", x.polynomial(), 0);
        Check.same("its degree", x.degree(0), ByteFields.NONE);
        Check.put(x, 0, 0, 0);
        Check.same("polynomial of zeros", x.polynomial(), 1);
        Check.same("its degree", x.degree(1), ByteFields.NONE);
        Check.same("the row is read", x.told(0), 0);
        Check.put(x, 3, 0, 5, 0, 0);
        Check.same("polynomial", x.polynomial(), 2);
        Check.same("its coefficients", Check.coefficientsOf(x, 2), List.of(3, 0, 5));
        for (int k = 0; k < 130; k++) {
            x.put(k == 64 ? 9 : 0);
        }
        Check.same("polynomial of degree 64, zeros above", x.polynomial(), 3);
        Check.same("its degree", x.degree(3), 64);
        Check.same("its highest", x.coefficient(3, 64), 9);
        for (int k = 0; k < 66; k++) {
            x.put(k == 65 ? 1 : 0);
        }
        Check.refuses(x, ROOM, "degree 65", x::polynomial);
        for (int k = 66; k < 130; k++) {
            x.put(k == 129 ? 1 : 0);
        }
        Check.refuses(x, ROOM, "degree 129", x::polynomial);
        Check.same("told of polynomials", x.told(2), 4);
    }

    private static void through(int bits) {
        Subject x = made(bits);
        Check.same("through no points", x.through(), 0);
        Check.same("its degree", x.degree(0), ByteFields.NONE);
        Check.put(x, 5, 0);
        Check.same("through a 0", x.degree(x.through()), ByteFields.NONE);
        Check.put(x, 0, 7);
        Check.same("through one point", Check.coefficientsOf(x, x.through()), List.of(7));
        Check.same("the row is read", x.told(0), 0);
        Check.put(x, 1, 1, 2, 4, 3, 5, 4, 16);
        // 2 squared is 4, 3 squared 5, 4 squared 16: nothing above x squared.
        Check.same("through squares", Check.coefficientsOf(x, x.through()), List.of(0, 0, 1));
        Random random = new Random(3);
        for (int count : new int[] {2, 3, 17, 64, 65}) {
            List<Integer> ys = new ArrayList<>();
            for (int k = 0; k < count; k++) {
                ys.add(random.nextInt(1 << bits));
                Check.put(x, 255 - 3 * k, ys.get(k));
            }
            int p = x.through();
            Check.holds("degree through " + count, x.degree(p) < count);
            for (int k = 0; k < count; k++) {
                Check.same("value " + k + " through " + count, x.value(p, 255 - 3 * k), ys.get(k));
            }
        }
        Check.put(x, 1);
        Check.refuses(x, STATE, "an odd number", x::through);
        Check.put(x, 2, 1);
        Check.refuses(x, STATE, "an odd number of three", x::through);
        Check.put(x, 2);
        Check.refuses(x, STATE, "two x alike, their y too", x::through);
        x.drop();
        Check.put(x, 3, 2, 1, 2, 4, 4, 3, 8);
        Check.refuses(x, STATE, "two x alike", x::through);
        x.drop();
        Check.put(x, 1, 2, 2, 2, 3, 1);
        Check.same("y alike, x as y", x.value(x.through(), 3), 1);
    }

    private static void degreesAndValues(int bits) {
        Subject x = made(bits);
        int size = 1 << bits;
        int p = Check.polynomial(x, 5, 6, 0, 7);
        for (int member : new int[] {0, 1, 2, 3, 100, 255, size - 1}) {
            int value = 5 ^ x.product(6, member) ^ x.product(7, x.power(member, 3));
            Check.same("value at " + member, x.value(p, member), value);
        }
        Check.same("value of a constant", x.value(Check.polynomial(x, 9), size - 1), 9);
        Check.same("value of 0", x.value(Check.polynomial(x), 1), 0);
        Check.same("degree", x.degree(p), 3);
        Check.same("degree of a constant", x.degree(1), 0);
        Check.same("degree of 0", x.degree(2), ByteFields.NONE);
        Check.same("coefficient 0", x.coefficient(p, 0), 5);
        Check.same("coefficient 2", x.coefficient(p, 2), 0);
        Check.same("coefficient 3", x.coefficient(p, 3), 7);
        Check.same("coefficient 4", x.coefficient(p, 4), 0);
        Check.same("coefficient 65", x.coefficient(p, 65), 0);
        Check.same("coefficient of the greatest int", x.coefficient(p, Integer.MAX_VALUE), 0);
        Check.same("coefficient of 0", x.coefficient(2, 0), 0);
        Check.refuses(x, INDEX, "coefficient -1", () -> x.coefficient(p, -1));
        Check.refuses(x, INDEX, "coefficient of the least int", () -> x.coefficient(p, Integer.MIN_VALUE));
        for (int bad : new int[] {-1, size, Integer.MIN_VALUE, Integer.MAX_VALUE}) {
            Check.refuses(x, ARGUMENT, "value at " + bad, () -> x.value(p, bad));
            Check.refuses(x, ARGUMENT, "value of 0 at " + bad, () -> x.value(2, bad));
        }
    }

    private static void sums(int bits) {
        Subject x = made(bits);
        Check.polynomial(x, 1, 2, 3);
        Check.polynomial(x, 4, 2, 3);
        Check.polynomial(x, 8);
        Check.put(x, 1);
        Check.same("plus", x.plus(0, 1), 3);
        Check.same("plus() reads no row", x.drop(), 1);
        Check.same("a sum of a lower degree", Check.coefficientsOf(x, 3), List.of(5));
        Check.same("a sum with a lower one", Check.coefficientsOf(x, x.plus(2, 0)), List.of(9, 2, 3));
        Check.same("a sum with a higher one", Check.coefficientsOf(x, x.plus(0, 2)), List.of(9, 2, 3));
        Check.same("a sum with itself", x.degree(x.plus(0, 0)), ByteFields.NONE);
        Check.same("a sum with 0", Check.coefficientsOf(x, x.plus(6, 1)), List.of(4, 2, 3));
        Check.same("0 and 0", x.degree(x.plus(6, 6)), ByteFields.NONE);
        Check.same("a part stays as it was", Check.coefficientsOf(x, 0), List.of(1, 2, 3));
    }

    private static void products(int bits) {
        Subject x = made(bits);
        Check.polynomial(x, 1, 2);
        Check.polynomial(x, 3, 0, 5);
        Check.put(x, 1);
        Check.same("multiply", x.multiply(0, 1), 2);
        Check.same("multiply() reads no row", x.drop(), 1);
        Check.same("product", Check.coefficientsOf(x, 2), List.of(3, 6, 5, 10));
        Check.same("square", Check.coefficientsOf(x, x.multiply(0, 0)), List.of(1, 0, 4));
        int zero = Check.polynomial(x);
        Check.same("product by 0", x.degree(x.multiply(1, zero)), ByteFields.NONE);
        Check.same("product of 0", x.degree(x.multiply(zero, 1)), ByteFields.NONE);
        Check.same("0 by 0", x.degree(x.multiply(zero, zero)), ByteFields.NONE);
        int p32 = Check.ones(x, 32, 0);
        int p33 = Check.ones(x, 33, 1);
        int p64 = x.multiply(p32, p32);
        Check.same("degree 64", x.degree(p64), 64);
        Check.same("0 by degree 64", x.degree(x.multiply(zero, p64)), ByteFields.NONE);
        Check.same("a constant by degree 64", x.degree(x.multiply(Check.polynomial(x, 2), p64)), 64);
        Check.refuses(x, ROOM, "degree 65", () -> x.multiply(p32, p33));
        Check.refuses(x, ROOM, "degree 65 by 1", () -> x.multiply(p64, 0));
        Check.refuses(x, ROOM, "degree 128", () -> x.multiply(p64, p64));
    }

    private static void quotients(int bits) {
        Subject x = made(bits);
        Random random = new Random(4);
        for (int n = 0; n < 8; n++) {
            int p = random(x, random, n * 8);
            int q = random(x, random, 9 * (n % 4) + n / 2);
            int quotient = x.divide(p, q, false);
            int rest = x.divide(p, q, true);
            Check.holds("the rest has a lower degree", x.degree(rest) < x.degree(q));
            if (x.told(2) > 36) {
                break;
            }
            int again = x.plus(x.multiply(quotient, q), rest);
            Check.same("quotient and rest", Check.coefficientsOf(x, again), Check.coefficientsOf(x, p));
        }
        Subject y = made(bits);
        int p = Check.polynomial(y, 1, 2, 3);
        int zero = Check.polynomial(y);
        int seven = Check.polynomial(y, 7);
        int higher = Check.polynomial(y, 0, 0, 0, 2);
        Check.same("rest by a constant", y.degree(y.divide(p, seven, true)), ByteFields.NONE);
        Check.same("quotient by a constant", Check.coefficientsOf(y, y.divide(p, seven, false)),
                List.of(y.quotient(1, 7), y.quotient(2, 7), y.quotient(3, 7)));
        Check.same("quotient by a higher one", y.degree(y.divide(p, higher, false)), ByteFields.NONE);
        Check.same("rest by a higher one", Check.coefficientsOf(y, y.divide(p, higher, true)), List.of(1, 2, 3));
        Check.same("0 by one", y.degree(y.divide(zero, p, false)), ByteFields.NONE);
        Check.same("rest of 0", y.degree(y.divide(zero, p, true)), ByteFields.NONE);
        Check.same("by itself", Check.coefficientsOf(y, y.divide(p, p, false)), List.of(1));
        Check.same("rest by itself", y.degree(y.divide(p, p, true)), ByteFields.NONE);
        Check.refuses(y, ARITHMETIC, "by 0", () -> y.divide(p, zero, false));
        Check.refuses(y, ARITHMETIC, "rest by 0", () -> y.divide(zero, zero, true));
        Check.refuses(y, INDEX, "no such one by 0", () -> y.divide(-1, zero, true));
    }

    private static int random(Subject x, Random random, int degree) {
        int[] coefficients = new int[degree + 1];
        for (int k = 0; k <= degree; k++) {
            coefficients[k] = random.nextInt(256);
        }
        coefficients[degree] = 1 + random.nextInt(255);
        return Check.polynomial(x, coefficients);
    }

    private static void commonDivisors(int bits) {
        Subject x = made(bits);
        int a = Check.polynomial(x, 1, 1);
        int b = Check.polynomial(x, 2, 1);
        int c = Check.polynomial(x, 3, 7);
        int ab = x.multiply(a, b);
        int aab = x.multiply(a, ab);
        int aac = x.multiply(x.multiply(a, a), c);
        int zero = Check.polynomial(x);
        int constant = Check.polynomial(x, 9);
        Check.same("common twice", Check.coefficientsOf(x, x.common(aab, aac)), List.of(1, 0, 1));
        Check.same("common the other way", Check.coefficientsOf(x, x.common(aac, aab)), List.of(1, 0, 1));
        Check.same("common of a part", Check.coefficientsOf(x, x.common(ab, aab)), Check.coefficientsOf(x, ab));
        Check.same("nothing common", Check.coefficientsOf(x, x.common(b, c)), List.of(1));
        Check.same("common with a constant", Check.coefficientsOf(x, x.common(aab, constant)), List.of(1));
        Check.same("common of a constant and 0", Check.coefficientsOf(x, x.common(constant, zero)), List.of(1));
        List<Integer> monic = List.of(x.quotient(3, 7), 1);
        Check.same("common with 0", Check.coefficientsOf(x, x.common(c, zero)), monic);
        Check.same("common of 0", Check.coefficientsOf(x, x.common(zero, c)), monic);
        Check.same("common with itself", Check.coefficientsOf(x, x.common(c, c)), monic);
        Check.same("common of 0 and 0", x.degree(x.common(zero, zero)), ByteFields.NONE);
        int high = x.multiply(Check.ones(x, 50, 3, 0), aab);
        int other = x.multiply(Check.ones(x, 60, 1, 0), aab);
        Check.same("common of high degrees", x.degree(x.divide(high, x.common(high, other), true)), ByteFields.NONE);
        Check.same("and of the other", x.degree(x.divide(other, x.common(high, other), true)), ByteFields.NONE);
        Check.holds("and all of it", x.degree(x.common(high, other)) >= 3);
    }

    private static void roots(int bits) {
        int size = 1 << bits;
        Subject x = made(bits);
        int zero = Check.polynomial(x);
        for (int k : new int[] {0, 1, 255, size - 1}) {
            Check.same("root of 0", x.root(zero, k), k);
        }
        Check.same("no such root of 0", x.root(zero, size), ByteFields.NONE);
        Check.same("no such root of 0", x.root(zero, Integer.MAX_VALUE), ByteFields.NONE);
        int constant = Check.polynomial(x, 5);
        Check.same("root of a constant", x.root(constant, 0), ByteFields.NONE);
        int line = Check.polynomial(x, 6, 3);
        Check.same("root of a line", x.root(line, 0), x.quotient(6, 3));
        Check.same("one root alone", x.root(line, 1), ByteFields.NONE);
        int power = Check.ones(x, 7);
        Check.same("root 0", x.root(power, 0), 0);
        Check.same("root 0 is one root", x.root(power, 1), ByteFields.NONE);
        for (int bad : new int[] {-1, Integer.MIN_VALUE}) {
            Check.refuses(x, INDEX, "root " + bad, () -> x.root(line, bad));
            Check.refuses(x, INDEX, "root " + bad + " of 0", () -> x.root(zero, bad));
        }
        Check.same("root of the greatest int", x.root(line, Integer.MAX_VALUE), ByteFields.NONE);
        Random random = new Random(5);
        for (int n = 0; n < 25; n++) {
            rootsByTrial(x, random(x, random, 1 + random.nextInt(12)), size);
        }
    }

    private static void rootsByTrial(Subject x, int p, int size) {
        int k = 0;
        for (int member = 0; member < size; member++) {
            if (x.value(p, member) == 0) {
                Check.same("root " + k, x.root(p, k), member);
                k++;
            }
        }
        Check.same("as many roots as there are", x.root(p, k), ByteFields.NONE);
    }

    private static void manyRoots(int bits) {
        int size = 1 << bits;
        Random random = new Random(6);
        for (int n = 0; n < 10; n++) {
            Subject x = made(bits);
            for (int k = 0; k < 64; k++) {
                // Near one another, far apart, and the least and the greatest.
                int member = n == 0 ? k : n == 1 ? size - 1 - k : random.nextInt(n < 6 ? 256 : size);
                Check.put(x, member);
            }
            int p = productOfRoots(x, Check.rowOf(x));
            Check.same("degree of many", x.degree(p), 64);
            rootsByTrial(x, p, size);
        }
    }

    /** Coefficients of the product of x + v over all v, each as often as it is there. */
    private static int productOfRoots(Subject x, List<Integer> members) {
        int[] coefficients = new int[members.size() + 1];
        coefficients[0] = 1;
        for (int n = 0; n < members.size(); n++) {
            for (int k = n + 1; k >= 0; k--) {
                coefficients[k] = x.product(coefficients[k], members.get(n)) ^ (k > 0 ? coefficients[k - 1] : 0);
            }
        }
        return Check.polynomial(x, coefficients);
    }

    private static void often(int bits) {
        int size = 1 << bits;
        Subject x = made(bits);
        List<Integer> members = new ArrayList<>();
        for (int k = 0; k < 64; k++) {
            members.add(k < 1 ? 7 : k < 3 ? 0 : k < 23 ? size - 1 : 200);
        }
        int p = productOfRoots(x, members);
        Check.same("often 7", x.often(p, 7), 1);
        Check.same("often 0", x.often(p, 0), 2);
        Check.same("often the greatest", x.often(p, size - 1), 20);
        Check.same("often 200", x.often(p, 200), 41);
        Check.same("often 1", x.often(p, 1), 0);
        Check.same("often a power", x.often(Check.ones(x, 64), 0), 64);
        int zero = Check.polynomial(x);
        Check.same("often of 0", x.often(zero, 5), ByteFields.NONE);
        Check.same("often of a constant", x.often(Check.polynomial(x, 5), 5), 0);
        Check.same("often of a constant at 0", x.often(Check.polynomial(x, 5), 0), 0);
        for (int bad : new int[] {-1, size, Integer.MIN_VALUE, Integer.MAX_VALUE}) {
            Check.refuses(x, ARGUMENT, "often at " + bad, () -> x.often(p, bad));
            Check.refuses(x, ARGUMENT, "often of 0 at " + bad, () -> x.often(zero, bad));
        }
    }

    private static List<Integer> partsOf(Subject x, int p) {
        List<Integer> degrees = new ArrayList<>();
        for (int d = 1; d <= 64; d++) {
            for (int k = 0; k < x.parts(p, d); k++) {
                degrees.add(d);
            }
        }
        return degrees;
    }

    private static void partsOfKnown(int bits) {
        Subject x = made(bits);
        int zero = Check.polynomial(x);
        for (int d = 1; d <= 64; d++) {
            Check.same("parts of 0", x.parts(zero, d), ByteFields.NONE);
        }
        int constant = Check.polynomial(x, 3);
        for (int d = 1; d <= 64; d++) {
            Check.same("parts of a constant", x.parts(constant, d), 0);
        }
        Check.same("parts of a line", partsOf(x, Check.polynomial(x, 3, 4)), List.of(1));
        Check.same("parts of a power", x.parts(Check.ones(x, 64), 1), 64);
        for (int bad : new int[] {0, -1, 65, Integer.MIN_VALUE, Integer.MAX_VALUE}) {
            Check.refuses(x, ARGUMENT, "parts of degree " + bad, () -> x.parts(2, bad));
            Check.refuses(x, ARGUMENT, "parts of 0 of degree " + bad, () -> x.parts(zero, bad));
        }
        int cubic = Check.polynomial(x, 1, 1, 0, 1);
        int fifth = Check.polynomial(x, 5, 0, 5, 0, 0, 5);
        int line = Check.polynomial(x, 9, 2);
        int cube = x.multiply(cubic, x.multiply(cubic, cubic));
        int all = x.multiply(x.multiply(cube, fifth), x.multiply(fifth, x.multiply(line, line)));
        Check.same("parts as often as they are there", partsOf(x, all), List.of(1, 1, 3, 3, 3, 5, 5));
        Check.same("parts again", partsOf(x, all), List.of(1, 1, 3, 3, 3, 5, 5));
        Check.same("the polynomial stays", x.often(all, x.quotient(9, 2)), 2);
        int fourth = x.multiply(all, x.multiply(cubic, cube));
        Check.same("seven alike", x.parts(fourth, 3), 7);
    }

    /** A polynomial over bits alone that does not split there falls into gcd(degree, bits) parts of one degree. */
    private static void partsOverBits() {
        int[][] unsplit = {
            {2, 1, 0}, {3, 1, 0}, {4, 1, 0}, {5, 2, 0}, {6, 1, 0}, {7, 1, 0}, {8, 4, 3, 1, 0}, {9, 1, 0}, {10, 3, 0},
            {11, 2, 0}, {12, 3, 0}, {15, 1, 0}, {16, 5, 3, 1, 0}, {17, 3, 0}, {20, 3, 0}, {31, 3, 0}, {32, 7, 3, 2, 0},
            {36, 9, 0}, {60, 1, 0}, {61, 5, 2, 1, 0}, {63, 1, 0}, {64, 4, 3, 1, 0}};
        for (int bits : new int[] {8, 16}) {
            for (int[] powers : unsplit) {
                Subject x = made(bits);
                int degree = powers[0];
                int count = Integer.lowestOneBit(degree | bits);
                List<Integer> due = new ArrayList<>();
                for (int k = 0; k < count; k++) {
                    due.add(degree / count);
                }
                Check.same("parts of degree " + degree, partsOf(x, Check.ones(x, powers)), due);
            }
        }
    }

    /** Up to degree 5 lines and parts of degree 2 are enough to try: what they leave does not split. */
    private static void partsByTrial() {
        Random random = new Random(7);
        for (int n = 0; n < 30; n++) {
            Subject x = made(8);
            int degree = 2 + random.nextInt(4);
            int[] coefficients = new int[degree + 1];
            for (int k = 0; k < degree; k++) {
                coefficients[k] = random.nextInt(n < 15 ? 256 : 3);
            }
            coefficients[degree] = 1;
            List<Integer> due = new ArrayList<>();
            int[] left = coefficients.clone();
            for (int a = 0; a < 256; a++) {
                left = takeOut(x, left, due, a, 1);
            }
            for (int a = 0; a < 256 && left.length > 3; a++) {
                for (int b = 0; b < 256; b++) {
                    left = takeOut(x, left, due, a, b, 1);
                }
            }
            if (left.length > 1) {
                due.add(left.length - 1);
            }
            Check.same("parts by trial " + n, partsOf(x, Check.polynomial(x, coefficients)), due);
        }
    }

    /** Takes a part with 1 as highest coefficient out as often as it goes. */
    private static int[] takeOut(Subject x, int[] from, List<Integer> degrees, int... part) {
        int[] left = from;
        int degree = part.length - 1;
        while (left.length > degree) {
            int[] rest = left.clone();
            for (int k = left.length - 1; k >= degree; k--) {
                for (int j = 0; j < degree; j++) {
                    rest[k - degree + j] ^= x.product(rest[k], part[j]);
                }
            }
            for (int j = 0; j < degree; j++) {
                if (rest[j] != 0) {
                    return left;
                }
            }
            degrees.add(degree);
            left = java.util.Arrays.copyOfRange(rest, degree, rest.length);
        }
        return left;
    }

    private static void wrongNumbers(int bits) {
        Subject x = made(bits);
        Check.polynomial(x, 1, 2);
        Check.polynomial(x, 3);
        for (int bad : new int[] {-1, 2, 40, Integer.MIN_VALUE, Integer.MAX_VALUE}) {
            Check.refuses(x, INDEX, "degree of " + bad, () -> x.degree(bad));
            Check.refuses(x, INDEX, "coefficient of " + bad, () -> x.coefficient(bad, 0));
            Check.refuses(x, INDEX, "value of " + bad, () -> x.value(bad, 0));
            Check.refuses(x, INDEX, "value of " + bad + ", no member", () -> x.value(bad, -1));
            Check.refuses(x, INDEX, "plus of " + bad, () -> x.plus(bad, 0));
            Check.refuses(x, INDEX, "plus by " + bad, () -> x.plus(0, bad));
            Check.refuses(x, INDEX, "multiply of " + bad, () -> x.multiply(bad, 0));
            Check.refuses(x, INDEX, "multiply by " + bad, () -> x.multiply(0, bad));
            Check.refuses(x, INDEX, "divide of " + bad, () -> x.divide(bad, 0, true));
            Check.refuses(x, INDEX, "divide by " + bad, () -> x.divide(0, bad, false));
            Check.refuses(x, INDEX, "common of " + bad, () -> x.common(bad, 0));
            Check.refuses(x, INDEX, "common with " + bad, () -> x.common(0, bad));
            Check.refuses(x, INDEX, "root of " + bad, () -> x.root(bad, 0));
            Check.refuses(x, INDEX, "often of " + bad, () -> x.often(bad, 0));
            Check.refuses(x, INDEX, "often of " + bad + ", no member", () -> x.often(bad, -1));
            Check.refuses(x, INDEX, "parts of " + bad, () -> x.parts(bad, 1));
            Check.refuses(x, INDEX, "parts of " + bad + ", no degree", () -> x.parts(bad, 0));
        }
    }

    private static void noRoom(int bits) {
        Subject x = made(bits);
        Check.polynomial(x, 1, 2);
        int zero = Check.polynomial(x);
        Check.ones(x, 64);
        Check.fillPolynomials(x);
        Check.same("told of polynomials", x.told(2), 40);
        Check.refuses(x, ROOM, "polynomial without room", x::polynomial);
        Check.refuses(x, ROOM, "through without room", x::through);
        Check.refuses(x, ROOM, "plus without room", () -> x.plus(0, 0));
        Check.refuses(x, ROOM, "multiply without room", () -> x.multiply(0, 0));
        Check.refuses(x, ROOM, "multiply without room, degree 65", () -> x.multiply(0, 2));
        Check.refuses(x, ROOM, "divide without room", () -> x.divide(0, 0, false));
        Check.refuses(x, ROOM, "common without room", () -> x.common(0, 0));
        Check.refuses(x, ARITHMETIC, "by 0, without room", () -> x.divide(0, zero, false));
        Check.refuses(x, INDEX, "no such one, no room", () -> x.plus(0, 40));
        Check.put(x, 1, 2, 1);
        Check.refuses(x, STATE, "an odd number, no room", x::through);
        Check.put(x, 3);
        Check.refuses(x, STATE, "two x alike, no room", x::through);
        Check.same("parts need no room", x.parts(39, 1), ByteFields.NONE);
    }
}
