import com.sun.management.ThreadMXBean;
import java.lang.management.ManagementFactory;
import java.util.Random;

/** Runs of 512 of the dearest calls: all that they make has to fit, at once, in one small room. */
public final class RoomTest {
    private static final int CALLS = 512;
    /** Some 7.3 million elements of 4 bytes are allowed; a run should stay far below. */
    private static final long MOST_BYTES = 3_000_000;
    private static final long MOST_SECONDS = 120;

    private interface Call {
        int run(ByteFields x, int n);
    }

    public static void main(String[] args) {
        long start = System.nanoTime();
        for (int bits : new int[] {8, 16}) {
            measure("matrices, full", bits, (x, n) -> n < 40 ? x.matrix(8, 8) : x.singular(n % 40));
            measure("invert", bits, (x, n) -> n == 0 ? cauchy(x) : x.told(1) < 40 ? x.invert(0) : x.rank(n % 40));
            measure("times", bits, (x, n) -> n == 0 ? cauchy(x) : x.told(1) < 40 ? x.times(0, 0) : x.determinant(0));
            measure("singular", bits, (x, n) -> n == 0 ? cauchy(x) : x.singular(0));
            measure("root", bits, (x, n) -> n == 0 ? full(x) : x.root(0, n % 64));
            measure("often", bits, (x, n) -> n == 0 ? full(x) : x.often(0, n % 256));
            measure("parts", bits, (x, n) -> n < 40 ? unsplit(x, n) : x.parts(n % 40, n % 64 + 1));
            measure("common", bits, (x, n) -> n < 2 ? unsplit(x, n) : x.told(2) < 40 ? x.common(0, 1) : x.degree(0));
            measure("divide", bits, (x, n) -> n < 2 ? unsplit(x, n)
                    : x.told(2) < 40 ? x.divide(0, 1, n % 2 == 0) : x.value(0, n % 256));
            measure("forth and back", bits, (x, n) -> n == 0 ? spanned(x)
                    : n % 2 == 1 || x.told(2) == 40 ? x.forth(0) : x.back());
        }
        long seconds = (System.nanoTime() - start) / 1_000_000_000;
        Check.holds("all runs end within " + MOST_SECONDS + " seconds", seconds < MOST_SECONDS);
        Check.end();
    }

    private static void measure(String what, int bits, Call call) {
        ThreadMXBean threads = (ThreadMXBean) ManagementFactory.getThreadMXBean();
        long thread = Thread.currentThread().getId();
        long before = threads.getThreadAllocatedBytes(thread);
        long start = System.nanoTime();
        ByteFields x = new ByteFields(bits, 0);
        for (int n = 0; n < CALLS; n++) {
            call.run(x, n);
        }
        long bytes = threads.getThreadAllocatedBytes(thread) - before;
        System.out.println(bits + " bits, " + what + ": " + bytes / 1000 + " kB, "
                + (System.nanoTime() - start) / 1_000_000 + " ms");
        Check.holds("the room of " + what, bytes < MOST_BYTES);
    }

    private static int cauchy(ByteFields x) {
        for (int k = 0; k < 16; k++) {
            x.put(k);
        }
        return x.sums(8, 8);
    }

    /** Degree 64 with 64 roots. */
    private static int full(ByteFields x) {
        Random random = new Random(9);
        int[] coefficients = new int[65];
        coefficients[0] = 1;
        for (int n = 0; n < 64; n++) {
            int root = 4 * n + random.nextInt(4);
            for (int k = n + 1; k >= 0; k--) {
                coefficients[k] = x.product(coefficients[k], root) ^ (k > 0 ? coefficients[k - 1] : 0);
            }
        }
        return Check.polynomial(x, coefficients);
    }

    /** Degree 61 or 63, and one part of it: the longest way for the counting of parts. */
    private static int unsplit(ByteFields x, int n) {
        return n % 2 == 0 ? Check.ones(x, 63, 1, 0) : Check.ones(x, 61, 5, 2, 1, 0);
    }

    private static int spanned(ByteFields x) {
        unsplit(x, 0);
        Check.put(x, 1, 2, 4, 8, 16, 32);
        return x.span();
    }
}
