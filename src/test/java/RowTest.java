import java.util.List;

/** Promises 9 to 11, and 39 as far as THE ROW goes. */
public final class RowTest {
    public static void main(String[] args) {
        for (int bits : new int[] {8, 16}) {
            putsAndDrops(new Subject(bits, 43), bits == 8 ? 256 : 65536);
        }
        Check.end();
    }

    private static void putsAndDrops(Subject x, int size) {
        Check.same("drop of none", x.drop(), 0);
        for (int k = 0; k < 130; k++) {
            Check.same("row ahead of its member", x.row(k), ByteFields.NONE);
            Check.same("put", x.put(size - 1 - k), k + 1);
            Check.same("told", x.told(0), k + 1);
        }
        for (int k = 0; k < 130; k++) {
            Check.same("row(" + k + ")", x.row(k), size - 1 - k);
        }
        Check.same("row(130)", x.row(130), ByteFields.NONE);
        Check.same("row of the greatest int", x.row(Integer.MAX_VALUE), ByteFields.NONE);
        Check.refuses(x, IndexOutOfBoundsException.class, "row(-1)", () -> x.row(-1));
        Check.refuses(x, IndexOutOfBoundsException.class, "row of the least int", () -> x.row(Integer.MIN_VALUE));
        Check.refuses(x, UnsupportedOperationException.class, "a member too many", () -> x.put(0));
        for (int bad : new int[] {-1, size, Integer.MIN_VALUE, Integer.MAX_VALUE}) {
            Check.refuses(x, IllegalArgumentException.class, "no member, no room", () -> x.put(bad));
        }
        Check.same("drop", x.drop(), 130);
        Check.same("told behind drop", x.told(0), 0);
        Check.same("row behind drop", x.row(0), ByteFields.NONE);
        for (int bad : new int[] {-1, size, Integer.MIN_VALUE, Integer.MAX_VALUE}) {
            Check.refuses(x, IllegalArgumentException.class, "no member", () -> x.put(bad));
        }
        Check.same("put of 0", x.put(0), 1);
        Check.same("put of the same", x.put(0), 2);
        Check.same("row of both", Check.rowOf(x), List.of(0, 0));
        Check.same("second drop", x.drop(), 2);
        Check.same("third drop", x.drop(), 0);
    }
}
