/** Promises 1 to 8, sentence by sentence. */
final class FieldSentences extends Sentences {
    /** For 16 bits too many to make at each test. */
    private static final boolean[] SPLITTING_8 = SlowField.splitting(8);
    private static final boolean[] SPLITTING_16 = SlowField.splitting(16);

    static void all() {
        newObject();
        bits();
        poly();
        generator();
        product();
        quotient();
        power();
        log();
        order();
    }

    private static void newObject() {
        test(1, "No members in THE ROW", (x, size) -> {
            same("told(0)", x.told(0), 0);
            same("row(0)", x.row(0), NONE);
            same("drop()", x.drop(), 0);
            same("the first put", x.put(0), 1);
        });
        test(1, "no matrices", (x, size) -> {
            same("told(1)", x.told(1), 0);
            refuses(x, INDEX, "size(0, 0)", () -> x.size(0, 0));
            same("the first matrix", x.matrix(1, 1), 0);
        });
        test(1, "no polynomials", (x, size) -> {
            same("told(2)", x.told(2), 0);
            refuses(x, INDEX, "degree(0)", () -> x.degree(0));
            same("the first polynomial", x.polynomial(), 0);
        });
        test(1, "no SPAN.", (x, size) -> {
            same("told(3)", x.told(3), 0);
            x.polynomial();
            refuses(x, STATE, "forth(0)", () -> x.forth(0));
            refuses(x, STATE, "back()", x::back);
        });
    }

    private static void bits() {
        once(1, "BITS is 16 if bits is 16", () -> {
            Subject x = new Subject(16, 0);
            same("the greatest member", x.put(65535), 1);
            refuses(x, ARGUMENT, "put(65536)", () -> x.put(65536));
        });
        once(1, ", else 8.", () -> {
            for (int bits : new int[] {8, 0, 1, 7, 9, 15, 17, 24, 32, -1, -8, -16, 272, 65552, LEAST, GREATEST}) {
                Subject x = new Subject(bits, 0);
                same("the greatest member of bits " + bits, x.put(255), 1);
                refuses(x, ARGUMENT, "put(256) of bits " + bits, () -> x.put(256));
            }
        });
    }

    private static int polyFrom(int bits, int start) {
        return new Subject(bits, start).poly();
    }

    private static void poly() {
        once(1, "POLY is the first one of poly", () -> {
            for (int start : new int[] {27, 29, 43, 249}) {
                same("8 bits from " + start, polyFrom(8, start), start);
            }
            for (int start : new int[] {43, 45, 4107}) {
                same("16 bits from " + start, polyFrom(16, start), start);
            }
        });
        once(1, "(its lower BITS bits)", () -> {
            for (int above : new int[] {256, 65536, 0x7FFFFF00, LEAST, -256}) {
                same("8 bits, 29 below " + above, polyFrom(8, above | 29), 29);
                same("8 bits, 30 below " + above, polyFrom(8, above | 30), 43);
            }
            for (int above : new int[] {65536, 0x7FFF0000, LEAST, -65536}) {
                same("16 bits, 4107 below " + above, polyFrom(16, above | 4107), 4107);
            }
            same("8 bits from 4107", polyFrom(8, 4107), 27);
            same("8 bits from -1", polyFrom(8, -1), 27);
            same("16 bits from -1", polyFrom(16, -1), 43);
            same("8 bits from the greatest int", polyFrom(8, GREATEST), 27);
            same("16 bits from the greatest int", polyFrom(16, GREATEST), 43);
        });
        once(1, ", the next member, and so on", () -> {
            same("one further", polyFrom(8, 28), 29);
            same("two further", polyFrom(8, 27 - 2), 27);
            same("from behind one to the next", polyFrom(8, 30), 43);
            same("from 0", polyFrom(8, 0), 27);
            same("16 bits, one further", polyFrom(16, 44), 45);
            same("16 bits from 0", polyFrom(16, 0), 43);
        });
        once(1, "(0 behind the greatest one)", () -> {
            for (int start = 250; start < 256; start++) {
                same("8 bits from " + start, polyFrom(8, start), 27);
            }
            int last = 65535;
            while (SPLITTING_16[last]) {
                last--;
            }
            same("the last one of 16 bits", polyFrom(16, last), last);
            same("behind the last one of 16 bits", polyFrom(16, last + 1), 43);
            same("16 bits from 65535", polyFrom(16, 65535), 43);
        });
        once(1, ", with which X to the BITS + POLY is no product of two polynomials over bits with lower degrees"
                + " above 0.", () -> {
            for (int start = 0; start < 256; start++) {
                same("8 bits from " + start, polyFrom(8, start), SlowField.firstFrom(SPLITTING_8, start));
            }
            // Of two parts that do not split: a square, and degrees 8 and 8, 7 and 9, 1 and 15.
            int[][] parts = {{0x11B, 0x11B}, {0x11B, 0x11D}, {0x83, 0x203}, {3, 0x8003}};
            for (int[] two : parts) {
                int start = SlowField.carryless(two[0], two[1]) - 65536;
                same("16 bits from " + start, polyFrom(16, start), SlowField.firstFrom(SPLITTING_16, start));
            }
        });
        test(2, "POLY.", (x, size) -> {
            int poly = x.poly();
            // X to the BITS is what is left of it: POLY.
            same("X to the BITS", x.product(size / 2, 2), poly);
            x.put(1);
            x.matrix(1, 1);
            same("poly again", x.poly(), poly);
        });
    }

    private static void generator() {
        test(3, "The GENERATOR.", (x, size) -> {
            int least = 2;
            while (SlowField.order(bits(size), x.poly(), least) != size - 1) {
                least++;
            }
            same("generator()", x.generator(), least);
            x.put(1);
            same("generator() again", x.generator(), least);
        });
    }

    private static void product() {
        test(4, "IllegalArgumentException.", (x, size) -> {
            for (int bad : noMembers(size)) {
                refuses(x, ARGUMENT, "product(" + bad + ", 1)", () -> x.product(bad, 1));
                refuses(x, ARGUMENT, "product(1, " + bad + ")", () -> x.product(1, bad));
                refuses(x, ARGUMENT, "product(" + bad + ", 0)", () -> x.product(bad, 0));
                refuses(x, ARGUMENT, "product(0, " + bad + ")", () -> x.product(0, bad));
                refuses(x, ARGUMENT, "product of " + bad + " by itself", () -> x.product(bad, bad));
            }
        });
    }

    private static void quotient() {
        test(5, "IllegalArgumentException;", (x, size) -> {
            for (int bad : noMembers(size)) {
                refuses(x, ARGUMENT, "quotient(" + bad + ", 1)", () -> x.quotient(bad, 1));
                refuses(x, ARGUMENT, "quotient(1, " + bad + ")", () -> x.quotient(1, bad));
                refuses(x, ARGUMENT, "quotient(0, " + bad + ")", () -> x.quotient(0, bad));
                refuses(x, ARGUMENT, "quotient(" + bad + ", 0)", () -> x.quotient(bad, 0));
            }
        });
        test(5, "ArithmeticException: b is 0.", (x, size) -> {
            for (int a : new int[] {0, 1, 2, size - 1}) {
                refuses(x, ARITHMETIC, "quotient(" + a + ", 0)", () -> x.quotient(a, 0));
            }
            same("0 by 1", x.quotient(0, 1), 0);
            same("0 by the greatest", x.quotient(0, size - 1), 0);
            same("the greatest by 1", x.quotient(size - 1, 1), size - 1);
            same("the greatest by itself", x.quotient(size - 1, size - 1), 1);
            int half = x.quotient(1, 2);
            same("1 by 2, times 2", SlowField.product(bits(size), x.poly(), half, 2), 1);
        });
    }

    private static void power() {
        test(6, "a to the n", (x, size) -> {
            for (int a : new int[] {1, 2, 3, size - 1}) {
                int power = 1;
                for (int n = 0; n <= size + 1; n++) {
                    same("power(" + a + ", " + n + ")", x.power(a, n), power);
                    power = SlowField.product(bits(size), x.poly(), power, a);
                }
            }
            // 2 to the 63 leaves size / 2 by size - 1.
            same("the greatest n", x.power(3, Long.MAX_VALUE), x.power(3, size / 2 - 1));
            same("0 to the 1", x.power(0, 1), 0);
            same("0 to a whole turn", x.power(0, size - 1), 0);
            same("0 to the greatest n", x.power(0, Long.MAX_VALUE), 0);
        });
        test(6, ", 1 for n = 0", (x, size) -> {
            for (int a : new int[] {0, 1, 2, size - 1}) {
                same("power(" + a + ", 0)", x.power(a, 0), 1);
            }
        });
        test(6, ", by 1 to the a for n below 0.", (x, size) -> {
            for (int a : new int[] {1, 2, 3, size - 1}) {
                int down = x.quotient(1, a);
                same("power(" + a + ", -1)", x.power(a, -1), down);
                same("power(" + a + ", -2)", x.power(a, -2), x.product(down, down));
                same("a whole turn down from " + a, x.power(a, 1 - size), 1);
                same("one step more from " + a, x.power(a, -size), down);
                same("one step less from " + a, x.power(a, 2 - size), a);
                same("the least n from " + a, x.power(a, Long.MIN_VALUE), x.power(down, size / 2));
                same("n below all ints from " + a, x.power(a, -(1L << 32)), x.power(down, 1));
            }
        });
        test(6, "IllegalArgumentException;", (x, size) -> {
            for (int bad : noMembers(size)) {
                for (long n : new long[] {0, 1, -1, Long.MIN_VALUE, Long.MAX_VALUE}) {
                    refuses(x, ARGUMENT, "power(" + bad + ", " + n + ")", () -> x.power(bad, n));
                }
            }
        });
        test(6, "ArithmeticException: a is 0, n below 0.", (x, size) -> {
            for (long n : new long[] {-1, -2, 1 - size, LEAST, Long.MIN_VALUE}) {
                refuses(x, ARITHMETIC, "power(0, " + n + ")", () -> x.power(0, n));
            }
            same("power(1, -1)", x.power(1, -1), 1);
            same("power(0, 0)", x.power(0, 0), 1);
            same("power(0, 1)", x.power(0, 1), 0);
        });
    }

    private static void log() {
        test(7, "The least n, 0 or more, with GENERATOR to the n = a.", (x, size) -> {
            same("log(1)", x.log(1), 0);
            same("log of the GENERATOR", x.log(x.generator()), 1);
            same("log of the last power", x.log(x.quotient(1, x.generator())), size - 2);
            int power = 1;
            for (int n = 0; n < size - 1; n++) {
                same("log(" + power + ")", x.log(power), n);
                power = SlowField.product(bits(size), x.poly(), power, x.generator());
            }
        });
        test(7, "IllegalArgumentException;", (x, size) -> {
            for (int bad : noMembers(size)) {
                refuses(x, ARGUMENT, "log(" + bad + ")", () -> x.log(bad));
            }
        });
        test(7, "ArrayIndexOutOfBoundsException: a is 0.", (x, size) ->
            refuses(x, ArrayIndexOutOfBoundsException.class, "log(0)", () -> x.log(0)));
    }

    private static void order() {
        test(8, "The least n above 0 with a to the n = 1", (x, size) -> {
            same("order(1)", x.order(1), 1);
            same("order of the GENERATOR", x.order(x.generator()), size - 1);
            for (int n = 1; n < size; n++) {
                if ((size - 1) % n == 0) {
                    int a = x.power(x.generator(), (size - 1) / n);
                    same("order " + n, x.order(a), SlowField.order(bits(size), x.poly(), a));
                    same("order " + n + " is had", x.order(a), n);
                }
            }
            same("order of the greatest", x.order(size - 1), SlowField.order(bits(size), x.poly(), size - 1));
        });
        test(8, "; 0 for a = 0.", (x, size) -> same("order(0)", x.order(0), 0));
        test(8, "IllegalArgumentException.", (x, size) -> {
            for (int bad : noMembers(size)) {
                refuses(x, ARGUMENT, "order(" + bad + ")", () -> x.order(bad));
            }
        });
    }
}
