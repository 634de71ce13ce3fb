import java.util.Random;

/** Promises 1 to 8: a new object, and the field that it has. */
public final class FieldTest {
    private static final Class<IllegalArgumentException> ARGUMENT = IllegalArgumentException.class;
    private static final Class<ArithmeticException> ARITHMETIC = ArithmeticException.class;

    public static void main(String[] args) {
        newObjects();
        polysOf8();
        polysOf16();
        generators();
        products();
        quotients();
        powers();
        logs();
        orders();
        wrongMembers(new Subject(8, 29), 256);
        wrongMembers(new Subject(16, 4107), 65536);
        Check.end();
    }

    private static void newObjects() {
        for (int bits : new int[] {8, 16}) {
            Subject x = new Subject(bits, 1);
            for (int what = 0; what < 4; what++) {
                Check.same("told " + what + " of a new object", x.told(what), 0);
            }
            Check.same("row of a new object", x.row(0), ByteFields.NONE);
            Check.refuses(x, IndexOutOfBoundsException.class, "no matrix yet", () -> x.rank(0));
            Check.refuses(x, IndexOutOfBoundsException.class, "no polynomial yet", () -> x.degree(0));
            Check.refuses(x, IllegalStateException.class, "no span yet", x::back);
        }
        for (int bits : new int[] {8, 0, -16, 15, 17, 32, 65552, Integer.MIN_VALUE, Integer.MAX_VALUE}) {
            Subject x = new Subject(bits, 29);
            Check.same("the greatest member of bits " + bits, x.put(255), 1);
            Check.refuses(x, ARGUMENT, "256 of bits " + bits, () -> x.put(256));
        }
        Subject x = new Subject(16, 29);
        Check.same("the greatest member of bits 16", x.put(65535), 1);
        Check.refuses(x, ARGUMENT, "65536 of bits 16", () -> x.put(65536));
    }

    private static void polysOf8() {
        boolean[] splitting = SlowField.splitting(8);
        for (int start = -300; start < 600; start++) {
            Check.same("poly from " + start, new Subject(8, start).poly(), SlowField.firstFrom(splitting, start));
        }
        Check.same("poly from the least int", new Subject(8, Integer.MIN_VALUE).poly(), 27);
        Check.same("poly from the greatest int", new Subject(8, Integer.MAX_VALUE).poly(), 27);
    }

    private static void polysOf16() {
        boolean[] splitting = SlowField.splitting(16);
        int[] starts = {0, 1, 43, 44, 45, 4107, 65535, 65534, 65536, -1, 131071, Integer.MIN_VALUE, 70000};
        for (int start : starts) {
            Check.same("poly of 16 from " + start, new Subject(16, start).poly(),
                    SlowField.firstFrom(splitting, start));
        }
        Random random = new Random(1);
        for (int n = 0; n < 60; n++) {
            int start = random.nextInt();
            Check.same("poly of 16 from " + start, new Subject(16, start).poly(),
                    SlowField.firstFrom(splitting, start));
        }
    }

    private static void generators() {
        for (int start = 0; start < 256; start++) {
            oneGenerator(8, start);
        }
        for (int start : new int[] {0, 4107, 44, 1000, 30000, 50001, 65535}) {
            oneGenerator(16, start);
        }
    }

    private static void oneGenerator(int bits, int start) {
        Subject x = new Subject(bits, start);
        int least = 2;
        while (SlowField.order(bits, x.poly(), least) != (1 << bits) - 1) {
            least++;
        }
        Check.same("generator of " + bits + " with " + x.poly(), x.generator(), least);
    }

    private static void products() {
        for (int poly : new int[] {29, 27}) {
            Subject x = new Subject(8, poly);
            for (int a = 0; a < 256; a++) {
                for (int b = 0; b < 256; b++) {
                    Check.same("product(" + a + ", " + b + ")", x.product(a, b), SlowField.product(8, poly, a, b));
                }
            }
        }
        for (int start : new int[] {4107, 0, 50001}) {
            Subject x = new Subject(16, start);
            Random random = new Random(2);
            for (int n = 0; n < 20000; n++) {
                int a = n < 20 ? n % 5 * 16383 : random.nextInt(65536);
                int b = n < 20 ? 65535 - n / 5 : random.nextInt(65536);
                Check.same("product(" + a + ", " + b + ")", x.product(a, b), SlowField.product(16, x.poly(), a, b));
            }
        }
    }

    private static void quotients() {
        Subject x = new Subject(8, 27);
        for (int a = 0; a < 256; a++) {
            for (int b = 1; b < 256; b++) {
                Check.same("quotient(" + a + ", " + b + ") times " + b, x.product(x.quotient(a, b), b), a);
            }
            int dividend = a;
            Check.refuses(x, ARITHMETIC, "quotient(" + a + ", 0)", () -> x.quotient(dividend, 0));
        }
        Subject y = new Subject(16, 4107);
        for (int b = 1; b < 65536; b += 7) {
            Check.same("quotient(40000, " + b + ")", y.product(y.quotient(40000, b), b), 40000);
            Check.same("quotient(0, " + b + ")", y.quotient(0, b), 0);
        }
        Check.refuses(y, ARITHMETIC, "quotient(0, 0)", () -> y.quotient(0, 0));
        Check.refuses(y, ARGUMENT, "no member ahead of a quotient by 0", () -> y.quotient(-1, 0));
    }

    private static void powers() {
        Subject x = new Subject(8, 29);
        for (int a = 1; a < 256; a++) {
            int up = 1;
            int down = 1;
            for (int n = 0; n < 300; n++) {
                Check.same("power(" + a + ", " + n + ")", x.power(a, n), up);
                Check.same("power(" + a + ", " + -n + ")", x.power(a, -n), down);
                up = x.product(up, a);
                down = x.quotient(down, a);
            }
        }
        // 2 to the 63 leaves 128 by 255 and 32768 by 65535
        Check.same("the least n", x.power(2, Long.MIN_VALUE), x.power(2, -128));
        Check.same("the greatest n", x.power(2, Long.MAX_VALUE), x.power(2, 127));
        Subject y = new Subject(16, 4107);
        Check.same("the least n of 16", y.power(777, Long.MIN_VALUE), y.power(777, -32768));
        Check.same("the greatest n of 16", y.power(777, Long.MAX_VALUE), y.power(777, 32767));
        Check.same("a turn of 16", y.power(777, 65536), 777);
        Check.same("a square of 16", y.power(40000, 2), y.product(40000, 40000));
        for (Subject z : new Subject[] {x, y}) {
            Check.same("0 to the 0", z.power(0, 0), 1);
            Check.same("0 to the 1", z.power(0, 1), 0);
            Check.same("0 to the 255", z.power(0, 255), 0);
            Check.same("0 to the 65535", z.power(0, 65535), 0);
            Check.same("0 to the greatest n", z.power(0, Long.MAX_VALUE), 0);
            Check.refuses(z, ARITHMETIC, "0 to the -1", () -> z.power(0, -1));
            Check.refuses(z, ARITHMETIC, "0 to the least n", () -> z.power(0, Long.MIN_VALUE));
            Check.refuses(z, ARGUMENT, "no member ahead of n", () -> z.power(-1, -1));
        }
    }

    private static void logs() {
        for (Subject x : new Subject[] {
            new Subject(8, 29), new Subject(8, 27), new Subject(16, 4107), new Subject(16, 50001)}) {
            int power = 1;
            int n = 0;
            do {
                Check.same("log(" + power + ")", x.log(power), n);
                power = x.product(power, x.generator());
                n++;
            } while (power != 1);
            Check.holds("all members have had their log", n == 255 || n == 65535);
            Check.refuses(x, ArrayIndexOutOfBoundsException.class, "log(0)", () -> x.log(0));
        }
    }

    private static void orders() {
        for (int poly : new int[] {29, 27, 255}) {
            Subject x = new Subject(8, poly);
            for (int a = 1; a < 256; a++) {
                Check.same("order(" + a + ")", x.order(a), SlowField.order(8, x.poly(), a));
            }
            Check.same("order(0)", x.order(0), 0);
        }
        Subject y = new Subject(16, 4107);
        int[] divisors = {1, 3, 5, 15, 17, 51, 85, 255, 257, 771, 1285, 3855, 4369, 13107, 21845, 65535};
        for (int divisor : divisors) {
            Check.same("a member of order " + divisor, y.order(y.power(2, 65535 / divisor)), divisor);
            int twice = y.power(2, 2L * (65535 / divisor));
            Check.same("another of order " + divisor, y.order(twice), SlowField.order(16, 4107, twice));
        }
        Check.same("order(0) of 16", y.order(0), 0);
    }

    private static void wrongMembers(Subject x, int size) {
        for (int bad : new int[] {-1, size, size + 1, Integer.MIN_VALUE, Integer.MAX_VALUE}) {
            Check.refuses(x, ARGUMENT, "product(" + bad + ", 1)", () -> x.product(bad, 1));
            Check.refuses(x, ARGUMENT, "product(0, " + bad + ")", () -> x.product(0, bad));
            Check.refuses(x, ARGUMENT, "quotient(" + bad + ", 1)", () -> x.quotient(bad, 1));
            Check.refuses(x, ARGUMENT, "quotient(0, " + bad + ")", () -> x.quotient(0, bad));
            Check.refuses(x, ARGUMENT, "power(" + bad + ", 0)", () -> x.power(bad, 0));
            Check.refuses(x, ARGUMENT, "log(" + bad + ")", () -> x.log(bad));
            Check.refuses(x, ARGUMENT, "order(" + bad + ")", () -> x.order(bad));
        }
    }
}
