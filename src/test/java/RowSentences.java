import java.util.List;

/** Promises 9 to 11, sentence by sentence. */
final class RowSentences extends Sentences {
    static void all() {
        put();
        row();
        drop();
    }

    private static void put() {
        test(9, "A member comes behind: how many there are.", (x, size) -> {
            same("the first", x.put(size - 1), 1);
            same("the second", x.put(0), 2);
            same("one alike", x.put(0), 3);
            same("all, in order", Check.rowOf(x), List.of(size - 1, 0, 0));
            x.drop();
            same("the first behind drop()", x.put(5), 1);
            x.span();
            same("the first behind a call that read", x.put(7), 1);
        });
        test(9, "IllegalArgumentException;", (x, size) -> {
            for (int bad : noMembers(size)) {
                refuses(x, ARGUMENT, "put(" + bad + ")", () -> x.put(bad));
            }
            same("the greatest", x.put(size - 1), 1);
            for (int bad : noMembers(size)) {
                refuses(x, ARGUMENT, "put(" + bad + ") behind one", () -> x.put(bad));
            }
        });
        test(9, "UnsupportedOperationException.", (x, size) -> {
            putMany(x, 129, 1);
            same("the last one there is room for", x.put(2), 130);
            refuses(x, ROOM, "one too many", () -> x.put(0));
            refuses(x, ROOM, "one too many, again", () -> x.put(size - 1));
            same("the last is still there", x.row(129), 2);
            x.drop();
            same("room again", x.put(3), 1);
        });
    }

    private static void row() {
        test(10, "Member k of THE ROW, from 0 on", (x, size) -> {
            for (int k = 0; k < 130; k++) {
                x.put(size - 1 - k);
            }
            for (int k : new int[] {0, 1, 64, 128, 129}) {
                same("row(" + k + ")", x.row(k), size - 1 - k);
            }
            same("row() takes none away", x.told(0), 130);
        });
        test(10, "; NONE: it has not so many.", (x, size) -> {
            same("row(0) of none", x.row(0), NONE);
            same("row of the greatest int", x.row(GREATEST), NONE);
            x.put(0);
            same("row(0) of one", x.row(0), 0);
            same("row(1) of one", x.row(1), NONE);
            putMany(x, 129, 9);
            same("row(129) of 130", x.row(129), 9);
            same("row(130) of 130", x.row(130), NONE);
            same("row of the greatest int, full", x.row(GREATEST), NONE);
            x.drop();
            same("row(0) behind drop()", x.row(0), NONE);
            same("row(129) behind drop()", x.row(129), NONE);
        });
        test(10, "IndexOutOfBoundsException: k is below 0.", (x, size) -> {
            for (int k : new int[] {-1, -2, -130, LEAST}) {
                refuses(x, INDEX, "row(" + k + ") of none", () -> x.row(k));
            }
            x.put(4);
            for (int k : new int[] {-1, LEAST}) {
                refuses(x, INDEX, "row(" + k + ") of one", () -> x.row(k));
            }
            putMany(x, 129, 9);
            refuses(x, INDEX, "row(-1), full", () -> x.row(-1));
        });
    }

    private static void drop() {
        test(11, "THE ROW is empty: how many it had.", (x, size) -> {
            same("drop() of none", x.drop(), 0);
            x.put(7);
            same("drop() of one", x.drop(), 1);
            same("told behind it", x.told(0), 0);
            same("drop() again", x.drop(), 0);
            putMany(x, 130, 7);
            same("drop() of all there can be", x.drop(), 130);
            same("row behind it", x.row(0), NONE);
            same("drop() again", x.drop(), 0);
        });
    }
}
