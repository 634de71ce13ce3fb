import java.util.ArrayList;
import java.util.List;

/** What holds for all promises, sentence by sentence. */
final class TermSentences extends Sentences {
    static void all() {
        calls();
        members();
        products();
        row();
        kept();
        stays();
        firstNamed();
        kinds();
        nothingChanged();
    }

    private static void calls() {
        test(0, "An object is used for at most 512 calls after it has been made; what later calls answer is free.",
                (x, size) -> {
            int poly = x.poly();
            int calls = 1;
            for (; calls <= 40; calls++) {
                same("a matrix", x.matrix(8, 8), calls - 1);
            }
            for (; calls <= 80; calls++) {
                same("a polynomial", x.polynomial(), calls - 41);
            }
            for (; calls <= 210; calls++) {
                same("a member", x.put(1), calls - 80);
            }
            for (; calls < 511; calls++) {
                same("a product", x.product(2, size / 2), poly);
            }
            same("the 512th call", x.singular(39), 12869);
        });
    }

    private static void members() {
        test(0, "MEMBERS are 0 .. 2^BITS - 1, BITS being 8 or 16.", (x, size) -> {
            x.matrix(1, 1);
            Check.polynomial(x, 0, 1);
            for (int member : new int[] {0, size - 1}) {
                same("product", x.product(member, 1), member);
                same("quotient", x.quotient(member, 1), member);
                same("power", x.power(member, 1), member);
                same("put", x.put(member) > 0, true);
                x.set(0, 0, 0, member);
                same("set", x.cell(0, 0, 0), member);
                same("value", x.value(0, member), member);
                same("often", x.often(0, member), member == 0 ? 1 : 0);
            }
            same("log of the greatest", x.power(x.generator(), x.log(size - 1)), size - 1);
            same("order of the greatest", x.power(size - 1, x.order(size - 1)), 1);
            for (int bad : noMembers(size)) {
                refuses(x, ARGUMENT, "product of " + bad, () -> x.product(bad, 1));
                refuses(x, ARGUMENT, "product by " + bad, () -> x.product(1, bad));
                refuses(x, ARGUMENT, "quotient of " + bad, () -> x.quotient(bad, 1));
                refuses(x, ARGUMENT, "quotient by " + bad, () -> x.quotient(1, bad));
                refuses(x, ARGUMENT, "power of " + bad, () -> x.power(bad, 1));
                refuses(x, ARGUMENT, "log of " + bad, () -> x.log(bad));
                refuses(x, ARGUMENT, "order of " + bad, () -> x.order(bad));
                refuses(x, ARGUMENT, "put of " + bad, () -> x.put(bad));
                refuses(x, ARGUMENT, "set to " + bad, () -> x.set(0, 0, 0, bad));
                refuses(x, ARGUMENT, "value at " + bad, () -> x.value(0, bad));
                refuses(x, ARGUMENT, "often of " + bad, () -> x.often(0, bad));
            }
        });
        test(0, "The sum of two is their xor.", (x, size) -> {
            int p = Check.polynomial(x, size - 1, 1, 6);
            int q = Check.polynomial(x, 1, 1, 5);
            same("of polynomials", Check.coefficientsOf(x, x.plus(p, q)), List.of(size - 2, 0, 3));
            Check.matrix(x, 1, 2, 1, 1);
            Check.matrix(x, 2, 1, size - 1, size - 1);
            same("of one and itself", Check.cellsOf(x, x.times(0, 1)), List.of(0));
            Check.put(x, size - 1, size - 2);
            same("of the greatest two", Check.cellsOf(x, x.sums(1, 1)), List.of(1));
        });
        test(0, "The GENERATOR is the least member above 1 whose powers are all members but 0.", (x, size) -> {
            same("not 1", x.generator() > 1, true);
            same("all members but 0", SlowField.order(bits(size), x.poly(), x.generator()), size - 1);
            for (int lower = 2; lower < x.generator(); lower++) {
                same(lower + " has not all", SlowField.order(bits(size), x.poly(), lower) < size - 1, true);
            }
        });
        test(0, "A quotient by 0 there is none.", (x, size) -> {
            int zero = Check.polynomial(x);
            int one = Check.polynomial(x, 1);
            refuses(x, ARITHMETIC, "of 1", () -> x.quotient(1, 0));
            refuses(x, ARITHMETIC, "of 0", () -> x.quotient(0, 0));
            refuses(x, ARITHMETIC, "as a power", () -> x.power(0, -1));
            refuses(x, ARITHMETIC, "of polynomials", () -> x.divide(one, zero, false));
            refuses(x, ARITHMETIC, "of polynomials, the rest", () -> x.divide(one, zero, true));
            same("no inverse of 0", x.invert(x.matrix(1, 1)), NONE);
        });
    }

    private static void products() {
        test(0, "The product: bit k of a member stands for X to the k; the product of both as polynomials over bits,"
                + " and its rest by X to the BITS + POLY, bits of POLY likewise.", (x, size) -> {
            int bits = bits(size);
            same("0 by the greatest", x.product(0, size - 1), 0);
            same("the greatest by 0", x.product(size - 1, 0), 0);
            same("0 by 0", x.product(0, 0), 0);
            same("1 by the greatest", x.product(1, size - 1), size - 1);
            same("the highest that stays below", x.product(size / 4, 2), size / 2);
            same("the first that goes over", x.product(size / 2, 2), x.poly());
            for (int a = 0; a < bits; a++) {
                for (int b = 0; b < bits; b++) {
                    same("X to the " + a + " by X to the " + b, x.product(1 << a, 1 << b),
                            SlowField.product(bits, x.poly(), 1 << a, 1 << b));
                }
                same("the greatest by X to the " + a, x.product(size - 1, 1 << a),
                        SlowField.product(bits, x.poly(), size - 1, 1 << a));
            }
            same("the greatest by itself", x.product(size - 1, size - 1),
                    SlowField.product(bits, x.poly(), size - 1, size - 1));
        });
    }

    private static void row() {
        test(0, "THE ROW has members, at most 130, none at first;", (x, size) -> {
            same("at first", x.told(0), 0);
            putRising(x, 130);
            same("at most", x.told(0), 130);
            refuses(x, ROOM, "one more", () -> x.put(1));
        });
        test(0, "some calls read it, and it is empty then", (x, size) -> {
            x.matrix(2, 1);
            Check.put(x, 1, 2);
            same("powers", x.powers(2, 2), 1);
            same("the row behind powers", x.drop(), 0);
            Check.put(x, 1, 2);
            same("sums", x.sums(1, 1), 2);
            same("the row behind sums", x.drop(), 0);
            Check.put(x, 0, 0);
            same("solve", x.solve(0), 1);
            same("the row behind solve is x", Check.rowOf(x), List.of(0));
            x.drop();
            Check.put(x, 1, 2);
            same("polynomial", x.polynomial(), 0);
            same("the row behind polynomial", x.drop(), 0);
            Check.put(x, 1, 2);
            same("through", x.through(), 1);
            same("the row behind through", x.drop(), 0);
            Check.put(x, 1);
            same("span", x.span(), 2);
            same("the row behind span", x.drop(), 0);
            Check.put(x, 1, 2);
            same("back", x.back(), 2);
            same("the row behind back", x.drop(), 0);
            List<Integer> members = List.of(3, 4);
            Check.put(x, 3, 4);
            int last = 0;
            for (Check.Call call : othersThan(x)) {
                call.run();
                same("the row behind call " + last + " of those that read none", Check.rowOf(x), members);
                last++;
            }
        });
        test(0, "(also if they answer NONE)", (x, size) -> {
            x.matrix(2, 2);
            Check.put(x, 0, 1);
            same("solve", x.solve(0), NONE);
            same("the row behind it", x.told(0), 0);
            same("a member of it", x.row(0), NONE);
        });
        test(0, ", but not if they throw.", (x, size) -> {
            x.matrix(2, 2);
            List<Integer> three = List.of(5, 5, 0);
            Check.put(x, 5, 5, 0);
            refuses(x, STATE, "powers", () -> x.powers(3, 1));
            refuses(x, STATE, "sums", () -> x.sums(1, 2));
            refuses(x, STATE, "solve", () -> x.solve(0));
            refuses(x, STATE, "through", x::through);
            refuses(x, STATE, "span", x::span);
            refuses(x, STATE, "back", x::back);
            Check.fillMatrices(x);
            Check.fillPolynomials(x);
            refuses(x, ROOM, "polynomial", x::polynomial);
            same("the row", Check.rowOf(x), three);
            x.drop();
            x.span();
            x.put(9);
            refuses(x, ROOM, "powers without room", () -> x.powers(1, 1));
            refuses(x, ROOM, "back without room", x::back);
            x.put(8);
            refuses(x, ROOM, "sums without room", () -> x.sums(1, 1));
            refuses(x, ROOM, "through without room", x::through);
            same("the row", Check.rowOf(x), List.of(9, 8));
        });
    }

    /** All calls that neither read THE ROW nor make it, on two polynomials and a matrix of 2 by 1. */
    private static List<Check.Call> othersThan(Subject x) {
        int square = x.matrix(1, 1);
        x.set(square, 0, 0, 7);
        return new ArrayList<>(List.of(x::poly, x::generator, () -> x.product(2, 3), () -> x.quotient(2, 3),
                () -> x.power(2, 3), () -> x.log(2), () -> x.order(2), () -> x.row(0), () -> x.matrix(2, 2),
                () -> x.size(0, 0), () -> x.cell(0, 0, 0), () -> x.set(0, 0, 0, 1), () -> x.times(0, square),
                () -> x.invert(square), () -> x.invert(x.matrix(1, 1)), () -> x.rank(0), () -> x.determinant(square),
                () -> x.singular(0), () -> x.degree(0), () -> x.coefficient(0, 0), () -> x.value(0, 1),
                () -> x.plus(0, 1), () -> x.multiply(0, 1), () -> x.divide(0, 1, true), () -> x.divide(0, 1, false),
                () -> x.common(0, 1), () -> x.root(0, 0), () -> x.often(0, 1), () -> x.parts(0, 1), () -> x.told(0)));
    }

    private static void kept() {
        test(0, "MATRICES have 1 .. 8 rows and columns;", (x, size) -> {
            same("the least", x.matrix(1, 1), 0);
            same("the greatest", x.matrix(8, 8), 1);
            same("the last cell of the greatest", x.set(1, 7, 7, 5), 0);
            for (int bad : NO_SIDES) {
                refuses(x, ARGUMENT, "rows " + bad, () -> x.matrix(bad, 1));
                refuses(x, ARGUMENT, "columns " + bad, () -> x.matrix(1, bad));
            }
        });
        test(0, "POLYNOMIALS coefficients of x to the 0, 1, .., with a DEGREE of at most 64", (x, size) -> {
            Check.ones(x, 64);
            Check.polynomial(x, 0, 1);
            same("the greatest", x.degree(0), 64);
            refuses(x, ROOM, "one more by multiply", () -> x.multiply(0, 1));
            putMany(x, 66, 1);
            refuses(x, ROOM, "one more by polynomial", x::polynomial);
        });
        test(0, ": that of the highest coefficient that is not 0", (x, size) -> {
            same("of one", x.degree(Check.polynomial(x, 1)), 0);
            same("with zeros below", x.degree(Check.polynomial(x, 0, 0, 1)), 2);
            same("with zeros above", x.degree(Check.polynomial(x, 1, 2, 0, 0)), 1);
            same("of a sum whose highest fall away", x.degree(x.plus(1, Check.polynomial(x, 0, 3, 1))), 1);
        });
        test(0, ", NONE if all are.", (x, size) -> {
            same("of none", x.degree(Check.polynomial(x)), NONE);
            same("of one 0", x.degree(Check.polynomial(x, 0)), NONE);
            same("of a sum with itself", x.degree(x.plus(Check.polynomial(x, 1, 2), 2)), NONE);
        });
        test(0, "Both are numbered from 0 on as they come", (x, size) -> {
            Check.matrix(x, 1, 1, 1);
            same("a product's number", x.times(0, 0), 1);
            same("an inverse's", x.invert(0), 2);
            x.put(1);
            same("that of powers", x.powers(1, 1), 3);
            Check.put(x, 1, 2);
            same("that of sums", x.sums(1, 1), 4);
            same("that of zeros", x.matrix(1, 1), 5);
            same("no inverse, no number", x.invert(5), NONE);
            refuses(x, ARGUMENT, "a refused one", () -> x.matrix(0, 0));
            same("the next", x.matrix(1, 1), 6);
            x.put(1);
            same("polynomials have numbers of their own", x.polynomial(), 0);
            same("that of through", x.through(), 1);
            same("a sum's", x.plus(0, 1), 2);
            same("a product's", x.multiply(0, 1), 3);
            same("a quotient's", x.divide(0, 0, false), 4);
            same("a rest's", x.divide(0, 0, true), 5);
            refuses(x, ARITHMETIC, "a refused one", () -> x.divide(0, 1, true));
            same("that of common", x.common(0, 1), 6);
            x.span();
            x.put(9);
            same("that of back", x.back(), 7);
        });
        test(0, ", 40 of each at most", (x, size) -> {
            Check.fillMatrices(x);
            refuses(x, ROOM, "a matrix more", () -> x.matrix(1, 1));
            same("room for polynomials", x.polynomial(), 0);
            Check.fillPolynomials(x);
            same("the last ones", x.told(1) + x.told(2), 80);
            refuses(x, ROOM, "a polynomial more", x::polynomial);
            same("the last matrix is there", x.rank(39), 0);
            same("the last polynomial is there", x.degree(39), NONE);
        });
    }

    private static void stays() {
        test(0, ", and stay as they are, but for set().", (x, size) -> {
            Check.matrix(x, 2, 1, 3, 4);
            Check.polynomial(x, 1, 2, 3);
            Check.polynomial(x, 4, 1);
            Check.matrix(x, 2, 2, 0, 1, 5, 6);
            List<Integer> p = Check.coefficientsOf(x, 0);
            List<Integer> q = Check.coefficientsOf(x, 1);
            for (Check.Call call : othersThan(x)) {
                call.run();
                same("the first polynomial", Check.coefficientsOf(x, 0), p);
                same("the second polynomial", Check.coefficientsOf(x, 1), q);
                same("the matrix", Check.cellsOf(x, 1), List.of(0, 1, 5, 6));
            }
            Check.put(x, 1, 2);
            x.solve(1);
            x.invert(1);
            x.times(1, 1);
            x.singular(1);
            x.determinant(1);
            x.drop();
            x.span();
            x.forth(0);
            x.back();
            same("the matrix still", Check.cellsOf(x, 1), List.of(0, 1, 5, 6));
            same("the first polynomial still", Check.coefficientsOf(x, 0), p);
            int inverse = x.invert(1);
            List<Integer> cells = Check.cellsOf(x, inverse);
            x.set(1, 0, 0, 9);
            same("but for set()", Check.cellsOf(x, 1), List.of(9, 1, 5, 6));
            same("what was made of it stays", Check.cellsOf(x, inverse), cells);
        });
    }

    /** Each pair of exceptions that one call can be due; the promises' tests have each alone. */
    private static void firstNamed() {
        test(0, "Methods throw what their comments name, the one named first when several would do:", (x, size) -> {
            refuses(x, ARGUMENT, "quotient of no member by 0", () -> x.quotient(size, 0));
            refuses(x, ARGUMENT, "power of no member, n below 0", () -> x.power(-1, -1));
            x.matrix(1, 2);
            x.polynomial();
            refuses(x, INDEX, "size: number and what", () -> x.size(1, 2));
            refuses(x, INDEX, "set: number and member", () -> x.set(1, 0, 0, size));
            refuses(x, INDEX, "set: row and member", () -> x.set(0, 1, 0, size));
            refuses(x, INDEX, "set: column and member", () -> x.set(0, 0, 2, size));
            refuses(x, INDEX, "solve: number and an empty row", () -> x.solve(1));
            refuses(x, INDEX, "value: number and member", () -> x.value(1, size));
            refuses(x, INDEX, "often: number and member", () -> x.often(1, size));
            refuses(x, INDEX, "parts: number and d", () -> x.parts(1, 65));
            refuses(x, INDEX, "divide: the number of p, and q is 0", () -> x.divide(1, 0, true));
            refuses(x, INDEX, "forth: number and no SPAN", () -> x.forth(1));
            Check.put(x, 7, 7, 7);
            refuses(x, ARGUMENT, "powers: columns and two alike", () -> x.powers(3, 9));
            refuses(x, ARGUMENT, "powers: rows and two alike", () -> x.powers(0, 3));
            refuses(x, ARGUMENT, "sums: columns and too few", () -> x.sums(3, 9));
            refuses(x, ARGUMENT, "sums: rows and two alike", () -> x.sums(0, 3));
            Check.fillMatrices(x);
            Check.fillPolynomials(x);
            refuses(x, ARGUMENT, "matrix: rows and room", () -> x.matrix(0, 1));
            refuses(x, ARGUMENT, "matrix: columns and room", () -> x.matrix(1, 9));
            refuses(x, ARGUMENT, "powers: all three", () -> x.powers(3, 9));
            refuses(x, ARGUMENT, "sums: all three", () -> x.sums(0, 9));
            refuses(x, STATE, "powers: two alike and room", () -> x.powers(3, 1));
            refuses(x, STATE, "powers: too many and room", () -> x.powers(2, 1));
            refuses(x, STATE, "sums: two alike and room", () -> x.sums(1, 2));
            refuses(x, STATE, "sums: too many and room", () -> x.sums(1, 1));
            refuses(x, INDEX, "times: the first number and room", () -> x.times(40, 0));
            refuses(x, INDEX, "times: the second number and room", () -> x.times(0, 40));
            refuses(x, STATE, "times: sides and room", () -> x.times(0, 0));
            refuses(x, INDEX, "invert: number and room", () -> x.invert(40));
            refuses(x, STATE, "invert: not square and room", () -> x.invert(0));
            refuses(x, STATE, "through: odd and room", x::through);
            x.put(7);
            refuses(x, STATE, "through: two alike and room", x::through);
            refuses(x, INDEX, "plus: the first number and room", () -> x.plus(40, 0));
            refuses(x, INDEX, "plus: the second number and room", () -> x.plus(0, 40));
            refuses(x, INDEX, "multiply: the first number and room", () -> x.multiply(40, 0));
            refuses(x, INDEX, "multiply: the second number and room", () -> x.multiply(0, 40));
            refuses(x, INDEX, "divide: the first number and room", () -> x.divide(40, 0, false));
            refuses(x, INDEX, "divide: the second number and room", () -> x.divide(0, 40, true));
            refuses(x, INDEX, "common: the first number and room", () -> x.common(40, 0));
            refuses(x, INDEX, "common: the second number and room", () -> x.common(0, 40));
            refuses(x, ARITHMETIC, "divide: q is 0 and room", () -> x.divide(0, 0, false));
            refuses(x, STATE, "back: no SPAN and room", x::back);
            x.drop();
            x.span();
            refuses(x, STATE, "back: too few and room", x::back);
            putMany(x, 130, 1);
            refuses(x, ARGUMENT, "put: no member and room", () -> x.put(size));
        });
    }

    private static void kinds() {
        test(0, "IndexOutOfBoundsException: there is no such matrix, polynomial, row, column;", (x, size) -> {
            x.matrix(2, 3);
            x.matrix(3, 2);
            refuses(x, INDEX, "no such matrix", () -> x.rank(2));
            refuses(x, INDEX, "no such row, which another has", () -> x.cell(0, 2, 0));
            refuses(x, INDEX, "no such column, which another has", () -> x.cell(1, 0, 2));
            refuses(x, INDEX, "no such polynomial, though a matrix", () -> x.degree(0));
            x.polynomial();
            refuses(x, INDEX, "no such polynomial, the next", () -> x.degree(1));
        });
        test(0, "IllegalArgumentException: a number is not as it must be (a member where one has to be);",
                (x, size) -> {
            x.matrix(1, 1);
            x.polynomial();
            refuses(x, ARGUMENT, "no member", () -> x.put(size));
            refuses(x, ARGUMENT, "no side", () -> x.matrix(1, 9));
            refuses(x, ARGUMENT, "no what of size", () -> x.size(0, 2));
            refuses(x, ARGUMENT, "no d of parts", () -> x.parts(0, 0));
            refuses(x, ARGUMENT, "no what of told", () -> x.told(4));
        });
        test(0, "IllegalStateException: not now, as told;", (x, size) -> {
            x.polynomial();
            x.put(0);
            refuses(x, STATE, "back", x::back);
            x.drop();
            x.span();
            x.put(0);
            same("back, now", x.back(), 1);
        });
        test(0, "ArithmeticException: as told;", (x, size) -> {
            x.polynomial();
            refuses(x, ARITHMETIC, "quotient", () -> x.quotient(5, 0));
            refuses(x, ARITHMETIC, "power", () -> x.power(0, -5));
            refuses(x, ARITHMETIC, "divide", () -> x.divide(0, 0, false));
        });
        test(0, "UnsupportedOperationException: no room (a matrix or polynomial too many, a DEGREE above 64, a member"
                + " too many).", (x, size) -> {
            int high = Check.ones(x, 33);
            refuses(x, ROOM, "a DEGREE above 64", () -> x.multiply(high, high));
            Check.fillMatrices(x);
            refuses(x, ROOM, "a matrix too many", () -> x.matrix(1, 1));
            Check.fillPolynomials(x);
            refuses(x, ROOM, "a polynomial too many", () -> x.plus(0, 0));
            putMany(x, 130, 1);
            refuses(x, ROOM, "a member too many", () -> x.put(1));
        });
    }

    private static void nothingChanged() {
        test(0, "A call that throws changes nothing.", (x, size) -> {
            int line = Check.polynomial(x, 0, 1);
            Check.matrix(x, 2, 2, 1, 2, 3, 4);
            Check.put(x, 6, 5);
            x.span();
            Check.put(x, 8, 8, 8);
            refuses(x, ARGUMENT, "put", () -> x.put(size));
            refuses(x, ARGUMENT, "matrix", () -> x.matrix(1, 9));
            refuses(x, STATE, "powers", () -> x.powers(3, 3));
            refuses(x, STATE, "sums", () -> x.sums(2, 1));
            refuses(x, INDEX, "a row too many", () -> x.set(0, 2, 0, 1));
            refuses(x, ARGUMENT, "no member", () -> x.set(0, 1, 1, -1));
            refuses(x, INDEX, "times", () -> x.times(0, 1));
            refuses(x, STATE, "solve", () -> x.solve(0));
            refuses(x, STATE, "through", x::through);
            refuses(x, INDEX, "plus", () -> x.plus(0, 1));
            refuses(x, INDEX, "multiply", () -> x.multiply(1, 0));
            refuses(x, INDEX, "divide", () -> x.divide(0, 1, false));
            refuses(x, INDEX, "common", () -> x.common(1, 0));
            refuses(x, STATE, "span", x::span);
            refuses(x, INDEX, "forth", () -> x.forth(1));
            refuses(x, STATE, "back", x::back);
            same("the matrix", Check.cellsOf(x, 0), List.of(1, 2, 3, 4));
            same("the row", x.drop(), 3);
            same("THE SPAN", x.forth(line), 4);
            same("its members", Check.rowOf(x), List.of(0, 6, 5, 3));
            same("the next matrix", x.matrix(1, 1), 1);
            same("the next polynomial", x.polynomial(), 1);
            same("its coefficients", Check.coefficientsOf(x, 1), List.of(0, 6, 5, 3));
        });
    }
}
