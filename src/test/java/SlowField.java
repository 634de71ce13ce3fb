/** The field by its definition alone: products by shifts, orders by counting, no tables. */
final class SlowField {
    private SlowField() {
    }

    /** Marks each product of two polynomials over bits with degrees that make bits together. */
    static boolean[] splitting(int bits) {
        boolean[] marks = new boolean[1 << bits];
        for (int degree = 1; degree <= bits / 2; degree++) {
            for (int a = 1 << degree; a < 2 << degree; a++) {
                for (int b = 1 << (bits - degree); b < 2 << (bits - degree); b++) {
                    marks[carryless(a, b) - (1 << bits)] = true;
                }
            }
        }
        return marks;
    }

    static int carryless(int a, int b) {
        int product = 0;
        for (int k = 0; b >> k != 0; k++) {
            product ^= (b >> k & 1) * (a << k);
        }
        return product;
    }

    static int firstFrom(boolean[] splitting, int start) {
        int candidate = start & (splitting.length - 1);
        while (splitting[candidate]) {
            candidate = (candidate + 1) % splitting.length;
        }
        return candidate;
    }

    static int product(int bits, int poly, int a, int b) {
        long product = 0;
        for (int k = 0; k < bits; k++) {
            product ^= (long) (b >> k & 1) * ((long) a << k);
        }
        for (int k = 2 * bits; k >= bits; k--) {
            if ((product >> k & 1) != 0) {
                product ^= ((1L << bits) | poly) << (k - bits);
            }
        }
        return (int) product;
    }

    /** A count above all orders there can be tells that no power is 1. */
    static int order(int bits, int poly, int a) {
        int order = 1;
        for (int power = a; power != 1 && order < 1 << bits; power = product(bits, poly, power, a)) {
            order++;
        }
        return order;
    }
}
