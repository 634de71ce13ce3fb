/** What the tests by sentence share: each quotes the words of the document that it would miss. */
abstract class Sentences {
    interface Body {
        /** A new object, and how many members its field has. */
        void run(Subject x, int size);
    }

    static final int NONE = ByteFields.NONE;
    static final int LEAST = Integer.MIN_VALUE;
    static final int GREATEST = Integer.MAX_VALUE;
    static final Class<IllegalArgumentException> ARGUMENT = IllegalArgumentException.class;
    static final Class<IllegalStateException> STATE = IllegalStateException.class;
    static final Class<IndexOutOfBoundsException> INDEX = IndexOutOfBoundsException.class;
    static final Class<ArithmeticException> ARITHMETIC = ArithmeticException.class;
    static final Class<UnsupportedOperationException> ROOM = UnsupportedOperationException.class;
    static final int[] NO_SIDES = {0, 9, -1, LEAST, GREATEST};
    static final Document DOCUMENT = new Document();
    /** Bits and poly: with 2 as GENERATOR and with another one. */
    private static final int[][] FIELDS = {{8, 29}, {8, 27}, {16, 4107}, {16, 43}};

    /** The same on a new object of each field. */
    static void test(int promise, String words, Body body) {
        for (int[] field : FIELDS) {
            String about = "promise " + promise + ", '" + words + "', " + field[0] + " bits with " + field[1] + ": ";
            run(promise, words, about, () -> body.run(new Subject(field[0], field[1]), 1 << field[0]));
        }
    }

    /** Makes its objects itself. */
    static void once(int promise, String words, Runnable body) {
        run(promise, words, "promise " + promise + ", '" + words + "': ", body);
    }

    private static void run(int promise, String words, String about, Runnable body) {
        Check.about(about);
        same("the words in the document", DOCUMENT.quote(promise, words), true);
        int asked = Check.asked();
        try {
            body.run();
        } catch (RuntimeException e) {
            same("the test", e, "no exception");
        }
        same("the test asks something", Check.asked() > asked, true);
        Check.about("");
    }

    static void same(String what, Object got, Object want) {
        Check.same(what, got, want);
    }

    static void refuses(Subject x, Class<? extends RuntimeException> due, String what, Check.Call call) {
        Check.refuses(x, due, what, call);
    }

    static int[] noMembers(int size) {
        return new int[] {-1, size, size + 1, LEAST, GREATEST};
    }

    /** Of matrices or polynomials, as many as there are now being told. */
    static int[] noNumbers(int count) {
        return new int[] {-1, count, count + 1, 40, LEAST, GREATEST};
    }

    static int bits(int size) {
        return size == 256 ? 8 : 16;
    }

    /** The member is put as often as told. */
    static void putMany(Subject x, int count, int member) {
        for (int k = 0; k < count; k++) {
            x.put(member);
        }
    }

    /** Members 0, 1, 2, .., none alike. */
    static void putRising(Subject x, int count) {
        for (int k = 0; k < count; k++) {
            x.put(k);
        }
    }

    /** The product of x + v over all v. */
    static int withRoots(Subject x, int... members) {
        int[] coefficients = new int[members.length + 1];
        coefficients[0] = 1;
        for (int n = 0; n < members.length; n++) {
            for (int k = n + 1; k >= 0; k--) {
                coefficients[k] = x.product(coefficients[k], members[n]) ^ (k > 0 ? coefficients[k - 1] : 0);
            }
        }
        return Check.polynomial(x, coefficients);
    }
}
