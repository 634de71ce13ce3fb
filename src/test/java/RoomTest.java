import com.sun.management.ThreadMXBean;
import java.lang.management.ManagementFactory;
import java.util.function.Consumer;

/** Runs of 512 of the dearest calls: all that they make has to fit, at once, in one small room. */
public final class RoomTest {
    /** Some 7.3 million elements of 4 bytes; what the test itself makes is counted too, but is little. */
    private static final long MOST_BYTES = 4 * 7_300_000;
    private static final long MOST_SECONDS = 120;

    private interface Call {
        int run(Subject x, int n);
    }

    public static void main(String[] args) {
        long start = System.nanoTime();
        for (int bits : new int[] {8, 16}) {
            measure("matrices, full", bits, RoomTest::fullMatrices, (x, n) -> x.singular(n % 40));
            measure("invert", bits, RoomTest::cauchy, (x, n) -> n < 39 ? x.invert(0) : x.rank(n % 40));
            measure("times", bits, RoomTest::cauchy, (x, n) -> n < 39 ? x.times(0, 0) : x.determinant(0));
            measure("singular", bits, RoomTest::cauchy, (x, n) -> x.singular(0));
            measure("root", bits, RoomTest::fullOfRoots, (x, n) -> x.root(0, n % 64));
            measure("often", bits, RoomTest::fullOfRoots, (x, n) -> x.often(0, n % 256));
            measure("parts", bits, RoomTest::fullPolynomials, (x, n) -> x.parts(n % 40, n % 64 + 1));
            measure("common", bits, RoomTest::unsplit, (x, n) -> n < 38 ? x.common(0, 1) : x.degree(n % 40));
            measure("divide", bits, RoomTest::unsplit,
                    (x, n) -> n < 38 ? x.divide(0, 1, n % 2 == 0) : x.value(0, n % 256));
            measure("forth and back", bits, RoomTest::spanned,
                    (x, n) -> n % 2 == 0 || n > 2 * 38 ? x.forth(0) : x.back());
        }
        long seconds = (System.nanoTime() - start) / 1_000_000_000;
        Check.holds("all runs end within " + MOST_SECONDS + " seconds", seconds < MOST_SECONDS);
        Check.end();
    }

    private static void measure(String what, int bits, Consumer<Subject> prepare, Call call) {
        ThreadMXBean threads = (ThreadMXBean) ManagementFactory.getThreadMXBean();
        long thread = Thread.currentThread().getId();
        long before = threads.getThreadAllocatedBytes(thread);
        long start = System.nanoTime();
        Subject x = new Subject(bits, 43);
        prepare.accept(x);
        int n = 0;
        while (x.calls() < Subject.MOST_CALLS) {
            call.run(x, n);
            n++;
        }
        long bytes = threads.getThreadAllocatedBytes(thread) - before;
        System.out.println(bits + " bits, " + what + ", " + n + " times: " + bytes / 1000 + " kB, "
                + (System.nanoTime() - start) / 1_000_000 + " ms");
        Check.holds("the room of " + what, bytes < MOST_BYTES);
        Check.holds("most calls are those of " + what, n > Subject.MOST_CALLS / 2);
    }

    private static void fullMatrices(Subject x) {
        for (int n = 0; n < 40; n++) {
            x.matrix(8, 8);
        }
    }

    private static void cauchy(Subject x) {
        for (int k = 0; k < 16; k++) {
            x.put(k);
        }
        x.sums(8, 8);
    }

    /** Through 64 points of value 0, and one that is none: a DEGREE of 64 with as many roots. */
    private static void fullOfRoots(Subject x) {
        for (int n = 0; n < 64; n++) {
            Check.put(x, 4 * n + n % 3, 0);
        }
        Check.put(x, 3, 1);
        x.through();
    }

    /** One part of degree 63, and one of degree 61: the longest way for divisors and for the counting of parts. */
    private static void unsplit(Subject x) {
        Check.ones(x, 63, 1, 0);
        Check.ones(x, 61, 5, 2, 1, 0);
    }

    /** As many as there can be, half of them of degree 63. */
    private static void fullPolynomials(Subject x) {
        Check.ones(x, 63, 1, 0);
        for (int n = 1; n < 39; n += 2) {
            x.plus(0, Check.polynomial(x, n));
        }
        x.polynomial();
    }

    private static void spanned(Subject x) {
        unsplit(x);
        Check.put(x, 1, 2, 4, 8, 16, 32);
        x.span();
    }
}
