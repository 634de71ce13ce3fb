/**
 * A field of 256 or of 65536 members, THE ROW by which members are handed over, and the
 * matrices, polynomials and THE SPAN over that field.
 *
 * What calls need to work in is made once, in the constructors: a run of calls makes no
 * objects but the matrices and polynomials that it keeps, and the counts of their parts.
 */
public final class ByteFields {
    public static final int NONE = -1;

    private static final int MOST_IN_ROW = 130;
    private static final int MOST_NUMBERED = 40;
    private static final int MOST_SIDE = 8;
    private static final int MOST_DEGREE = 64;
    private static final int MOST_SPANNING = 6;
    /** A square of a rest by a polynomial of the greatest degree fits in. */
    private static final int WORK_ROOM = 2 * MOST_DEGREE + 1;

    private final Field field;
    private final Elimination elimination;
    private final Minors minors;
    private final Division division;
    private final Interpolation interpolation;
    private final Roots roots;
    private final Factors factors;
    private final Polynomial work = new Polynomial(WORK_ROOM);
    private final Polynomial otherWork = new Polynomial(WORK_ROOM);

    private final int[] rowMembers = new int[MOST_IN_ROW];
    private int inRow;
    private final Matrix[] matrices = new Matrix[MOST_NUMBERED];
    private int matrixCount;
    private final Polynomial[] polynomials = new Polynomial[MOST_NUMBERED];
    private int polynomialCount;
    private final int[] spanMembers = new int[1 << MOST_SPANNING];
    private int inSpan;

    public ByteFields(int bits, int poly) {
        field = new Field(bits == 16 ? 16 : 8, poly);
        elimination = new Elimination(field);
        minors = new Minors(field);
        division = new Division(field);
        interpolation = new Interpolation(field);
        roots = new Roots(field, division);
        factors = new Factors(field, division);
    }

    public int poly() {
        return field.poly;
    }

    public int generator() {
        return field.generator;
    }

    public int product(int a, int b) throws IllegalArgumentException {
        needMember(a);
        needMember(b);
        return field.mul(a, b);
    }

    public int quotient(int a, int b) throws IllegalArgumentException, ArithmeticException {
        needMember(a);
        needMember(b);
        if (b == 0) {
            throw new ArithmeticException("a quotient by 0");
        }
        return field.ratio(a, b);
    }

    public int power(int a, long n) throws IllegalArgumentException, ArithmeticException {
        needMember(a);
        if (a == 0 && n < 0) {
            throw new ArithmeticException("a power of 0 below 0");
        }
        return field.raised(a, n);
    }

    public int log(int a) throws IllegalArgumentException, ArrayIndexOutOfBoundsException {
        needMember(a);
        if (a == 0) {
            throw new ArrayIndexOutOfBoundsException("0 has no log");
        }
        return field.logOf(a);
    }

    public int order(int a) throws IllegalArgumentException {
        needMember(a);
        return field.orderOf(a);
    }

    // ---- THE ROW

    public int put(int v) throws IllegalArgumentException, UnsupportedOperationException {
        needMember(v);
        if (inRow >= MOST_IN_ROW) {
            throw new UnsupportedOperationException("the row is full");
        }
        rowMembers[inRow] = v;
        inRow++;
        return inRow;
    }

    public int row(int k) throws IndexOutOfBoundsException {
        if (k < 0) {
            throw new IndexOutOfBoundsException("a place below 0");
        }
        return k < inRow ? rowMembers[k] : NONE;
    }

    public int drop() {
        int had = inRow;
        inRow = 0;
        return had;
    }

    // ---- matrices

    public int matrix(int rows, int columns)
            throws IllegalArgumentException, UnsupportedOperationException {
        needSides(rows, columns);
        needMatrixRoom();
        return keepMatrix(new Matrix(rows, columns));
    }

    public int powers(int rows, int columns)
            throws IllegalArgumentException, IllegalStateException, UnsupportedOperationException {
        needSides(rows, columns);
        if (inRow != rows || hasAlike(1)) {
            throw new IllegalStateException("the row must have one member for each row, none alike");
        }
        needMatrixRoom();
        Matrix made = new Matrix(rows, columns);
        for (int i = 0; i < rows; i++) {
            int power = 1;
            for (int j = 0; j < columns; j++) {
                made.cells[i * columns + j] = power;
                power = field.mul(power, rowMembers[i]);
            }
        }
        inRow = 0;
        return keepMatrix(made);
    }

    public int sums(int rows, int columns)
            throws IllegalArgumentException, IllegalStateException, UnsupportedOperationException {
        needSides(rows, columns);
        if (inRow != rows + columns || hasAlike(1)) {
            throw new IllegalStateException("the row must have one member for each row and column, none alike");
        }
        needMatrixRoom();
        Matrix made = new Matrix(rows, columns);
        for (int i = 0; i < rows; i++) {
            for (int j = 0; j < columns; j++) {
                made.cells[i * columns + j] = field.inverse(rowMembers[i] ^ rowMembers[rows + j]);
            }
        }
        inRow = 0;
        return keepMatrix(made);
    }

    public int size(int matrix, int what) throws IndexOutOfBoundsException, IllegalArgumentException {
        Matrix m = matrixAt(matrix);
        if (what != 0 && what != 1) {
            throw new IllegalArgumentException("0 asks for the rows, 1 for the columns");
        }
        return what == 0 ? m.rows : m.columns;
    }

    public int cell(int matrix, int i, int j) throws IndexOutOfBoundsException {
        Matrix m = matrixAt(matrix);
        return m.cells[placeIn(m, i, j)];
    }

    public int set(int matrix, int i, int j, int v)
            throws IndexOutOfBoundsException, IllegalArgumentException {
        Matrix m = matrixAt(matrix);
        int place = placeIn(m, i, j);
        needMember(v);
        int was = m.cells[place];
        m.cells[place] = v;
        return was;
    }

    public int times(int a, int b)
            throws IndexOutOfBoundsException, IllegalStateException, UnsupportedOperationException {
        Matrix left = matrixAt(a);
        Matrix right = matrixAt(b);
        if (left.columns != right.rows) {
            throw new IllegalStateException("the sides do not fit");
        }
        needMatrixRoom();
        Matrix made = new Matrix(left.rows, right.columns);
        for (int i = 0; i < left.rows; i++) {
            for (int k = 0; k < left.columns; k++) {
                int factor = left.cells[i * left.columns + k];
                field.addMultiple(made.cells, i * made.columns, right.cells, k * right.columns,
                        right.columns, factor);
            }
        }
        return keepMatrix(made);
    }

    public int invert(int matrix)
            throws IndexOutOfBoundsException, IllegalStateException, UnsupportedOperationException {
        Matrix m = matrixAt(matrix);
        needSquare(m);
        needMatrixRoom();
        elimination.load(m);
        elimination.appendIdentity();
        if (elimination.reduce(m.columns) < m.rows) {
            return NONE;
        }
        Matrix made = new Matrix(m.rows, m.columns);
        elimination.copyAppended(made);
        return keepMatrix(made);
    }

    public int rank(int matrix) throws IndexOutOfBoundsException {
        Matrix m = matrixAt(matrix);
        elimination.load(m);
        return elimination.reduce(m.columns);
    }

    public int determinant(int matrix) throws IndexOutOfBoundsException, IllegalStateException {
        Matrix m = matrixAt(matrix);
        needSquare(m);
        elimination.load(m);
        // Two rows that change places change no sign here: a member is its own opposite.
        return elimination.reduce(m.columns) < m.rows ? 0 : elimination.pivotProduct;
    }

    public int singular(int matrix) throws IndexOutOfBoundsException {
        return minors.countZeros(matrixAt(matrix));
    }

    public int solve(int matrix) throws IndexOutOfBoundsException, IllegalStateException {
        Matrix m = matrixAt(matrix);
        if (inRow != m.rows) {
            throw new IllegalStateException("the row must have one member for each row of the matrix");
        }
        elimination.load(m);
        elimination.appendColumn(rowMembers);
        int rank = elimination.reduce(m.columns);
        inRow = 0;
        if (elimination.leavesOver(m.columns)) {
            return NONE;
        }
        for (int j = 0; j < m.columns; j++) {
            rowMembers[j] = elimination.solution(j, m.columns);
        }
        inRow = m.columns;
        return m.columns - rank;
    }

    // ---- polynomials

    public int polynomial() throws UnsupportedOperationException {
        int top = inRow - 1;
        while (top >= 0 && rowMembers[top] == 0) {
            top--;
        }
        if (top > MOST_DEGREE) {
            throw new UnsupportedOperationException("the degree is too high");
        }
        needPolynomialRoom();
        work.load(rowMembers, top + 1);
        inRow = 0;
        return keepPolynomial(work);
    }

    public int through() throws IllegalStateException, UnsupportedOperationException {
        if (inRow % 2 != 0 || hasAlike(2)) {
            throw new IllegalStateException("the row must have pairs, no two of one x");
        }
        needPolynomialRoom();
        int count = inRow / 2;
        for (int i = 0; i < count; i++) {
            interpolation.take(i, rowMembers[2 * i], rowMembers[2 * i + 1]);
        }
        interpolation.run(count, work);
        inRow = 0;
        return keepPolynomial(work);
    }

    public int degree(int p) throws IndexOutOfBoundsException {
        return polynomialAt(p).top;
    }

    public int coefficient(int p, int k) throws IndexOutOfBoundsException {
        Polynomial f = polynomialAt(p);
        if (k < 0) {
            throw new IndexOutOfBoundsException("a power below 0");
        }
        return k <= f.top ? f.at[k] : 0;
    }

    public int value(int p, int x) throws IndexOutOfBoundsException, IllegalArgumentException {
        Polynomial f = polynomialAt(p);
        needMember(x);
        return valueOf(f, x);
    }

    public int plus(int p, int q) throws IndexOutOfBoundsException, UnsupportedOperationException {
        Polynomial f = polynomialAt(p);
        Polynomial g = polynomialAt(q);
        needPolynomialRoom();
        work.copyFrom(f);
        work.addScaled(field, g, 1);
        return keepPolynomial(work);
    }

    public int multiply(int p, int q) throws IndexOutOfBoundsException, UnsupportedOperationException {
        Polynomial f = polynomialAt(p);
        Polynomial g = polynomialAt(q);
        if (f.top + g.top > MOST_DEGREE) {
            throw new UnsupportedOperationException("the degree is too high");
        }
        needPolynomialRoom();
        work.clear();
        for (int k = 0; k <= f.top; k++) {
            field.addMultiple(work.at, k, g.at, 0, g.top + 1, f.at[k]);
        }
        work.settle(f.top + g.top);
        return keepPolynomial(work);
    }

    public int divide(int p, int q, boolean rest)
            throws IndexOutOfBoundsException, ArithmeticException, UnsupportedOperationException {
        Polynomial f = polynomialAt(p);
        Polynomial g = polynomialAt(q);
        if (g.top < 0) {
            throw new ArithmeticException("a quotient by the polynomial 0");
        }
        needPolynomialRoom();
        work.copyFrom(f);
        if (rest) {
            division.toRest(work, g);
        } else {
            division.toQuotient(work, g);
        }
        return keepPolynomial(work);
    }

    public int common(int p, int q) throws IndexOutOfBoundsException, UnsupportedOperationException {
        Polynomial f = polynomialAt(p);
        Polynomial g = polynomialAt(q);
        needPolynomialRoom();
        work.copyFrom(f);
        otherWork.copyFrom(g);
        division.toGreatestDivisor(work, otherWork);
        return keepPolynomial(work);
    }

    public int root(int p, int k) throws IndexOutOfBoundsException {
        Polynomial f = polynomialAt(p);
        if (k < 0) {
            throw new IndexOutOfBoundsException("a root below 0");
        }
        if (f.top < 0) {
            return k < field.size ? k : NONE;
        }
        return roots.find(f, k);
    }

    public int often(int p, int v) throws IndexOutOfBoundsException, IllegalArgumentException {
        Polynomial f = polynomialAt(p);
        needMember(v);
        if (f.top < 0) {
            return NONE;
        }
        work.copyFrom(f);
        int count = 0;
        while (count < f.top && division.takeOut(work, v)) {
            count++;
        }
        return count;
    }

    public int parts(int p, int d) throws IndexOutOfBoundsException, IllegalArgumentException {
        Polynomial f = polynomialAt(p);
        if (d < 1 || d > MOST_DEGREE) {
            throw new IllegalArgumentException("no degree of a part");
        }
        if (f.top < 0) {
            return NONE;
        }
        int[] counts = f.partCounts;
        if (counts == null) {
            counts = new int[MOST_DEGREE + 1];
            factors.count(f, counts);
            f.partCounts = counts;
        }
        return counts[d];
    }

    // ---- THE SPAN

    public int span() throws IllegalStateException {
        if (inRow > MOST_SPANNING || hasXorOfAhead()) {
            throw new IllegalStateException("the row must have at most 6, none an xor of those ahead");
        }
        inSpan = 1 << inRow;
        for (int i = 0; i < inSpan; i++) {
            spanMembers[i] = xorOfChosen(i, inRow);
        }
        inRow = 0;
        return inSpan;
    }

    public int forth(int p) throws IndexOutOfBoundsException, IllegalStateException {
        Polynomial f = polynomialAt(p);
        needSpan();
        for (int i = 0; i < inSpan; i++) {
            rowMembers[i] = valueOf(f, spanMembers[i]);
        }
        inRow = inSpan;
        return inRow;
    }

    public int back() throws IllegalStateException, UnsupportedOperationException {
        needSpan();
        if (inRow != inSpan) {
            throw new IllegalStateException("the row must have one member for each of the span");
        }
        needPolynomialRoom();
        for (int i = 0; i < inSpan; i++) {
            interpolation.take(i, spanMembers[i], rowMembers[i]);
        }
        interpolation.run(inSpan, work);
        inRow = 0;
        return keepPolynomial(work);
    }

    public int told(int what) throws IllegalArgumentException {
        switch (what) {
            case 0:
                return inRow;
            case 1:
                return matrixCount;
            case 2:
                return polynomialCount;
            case 3:
                return inSpan;
            default:
                throw new IllegalArgumentException("nothing that is told");
        }
    }

    // ---- what calls must have

    private void needMember(int a) {
        if (a < 0 || a >= field.size) {
            throw new IllegalArgumentException("no member");
        }
    }

    private static void needSides(int rows, int columns) {
        if (rows < 1 || rows > MOST_SIDE || columns < 1 || columns > MOST_SIDE) {
            throw new IllegalArgumentException("a matrix has 1 to 8 rows and columns");
        }
    }

    private static void needSquare(Matrix m) {
        if (m.rows != m.columns) {
            throw new IllegalStateException("the matrix is not square");
        }
    }

    private void needMatrixRoom() {
        if (matrixCount >= MOST_NUMBERED) {
            throw new UnsupportedOperationException("a matrix too many");
        }
    }

    private void needPolynomialRoom() {
        if (polynomialCount >= MOST_NUMBERED) {
            throw new UnsupportedOperationException("a polynomial too many");
        }
    }

    private void needSpan() {
        if (inSpan == 0) {
            throw new IllegalStateException("there is no span yet");
        }
    }

    private Matrix matrixAt(int number) {
        Matrix found = number >= 0 && number < matrixCount ? matrices[number] : null;
        if (found == null) {
            throw new IndexOutOfBoundsException("no such matrix");
        }
        return found;
    }

    private static int placeIn(Matrix m, int i, int j) {
        if (i < 0 || i >= m.rows || j < 0 || j >= m.columns) {
            throw new IndexOutOfBoundsException("no such row or column");
        }
        return i * m.columns + j;
    }

    private Polynomial polynomialAt(int number) {
        Polynomial found = number >= 0 && number < polynomialCount ? polynomials[number] : null;
        if (found == null) {
            throw new IndexOutOfBoundsException("no such polynomial");
        }
        return found;
    }

    // ---- what calls share

    /** The caller has seen that there is room. */
    private int keepMatrix(Matrix made) {
        int number = matrixCount;
        matrices[number] = made;
        matrixCount++;
        return number;
    }

    /** The caller has seen that there is room, and that the degree is not too high. */
    private int keepPolynomial(Polynomial result) {
        Polynomial kept = new Polynomial(MOST_DEGREE + 1);
        kept.copyFrom(result);
        int number = polynomialCount;
        polynomials[number] = kept;
        polynomialCount++;
        return number;
    }

    /** Looks at every member of THE ROW (step 1) or at each x of its pairs (step 2). */
    private boolean hasAlike(int step) {
        for (int i = 0; i < inRow; i += step) {
            for (int j = 0; j < i; j += step) {
                if (rowMembers[i] == rowMembers[j]) {
                    return true;
                }
            }
        }
        return false;
    }

    private boolean hasXorOfAhead() {
        for (int k = 0; k < inRow; k++) {
            for (int chosen = 0; chosen < 1 << k; chosen++) {
                if (xorOfChosen(chosen, k) == rowMembers[k]) {
                    return true;
                }
            }
        }
        return false;
    }

    private int xorOfChosen(int chosen, int count) {
        int xor = 0;
        for (int k = 0; k < count; k++) {
            if ((chosen >> k & 1) != 0) {
                xor ^= rowMembers[k];
            }
        }
        return xor;
    }

    private int valueOf(Polynomial f, int x) {
        int result = 0;
        for (int k = f.top; k >= 0; k--) {
            result = field.mul(result, x) ^ f.at[k];
        }
        return result;
    }

    /** The members and their products; the sum of two is their xor. */
    private static final class Field {
        /** The primes of 255 and of 65535, each of which is there once. */
        private static final int[] PRIMES = {3, 5, 17, 257};
        /** In an element of tables: the bits of the log, and how many are below the power. */
        private static final int LOG = 0xFFFF;
        private static final int POWER = 16;

        final int bits;
        final int size;
        /** How many members are not 0. */
        final int units;
        final int poly;
        final int generator;
        /**
         * Element n has the generator to the n above its lower 16 bits, and the log of n in
         * them: one array for both takes half the room of two.
         */
        private final int[] tables;

        Field(int bits, int start) {
            this.bits = bits;
            size = 1 << bits;
            units = size - 1;
            poly = firstUnsplit(bits, start & units);
            generator = leastGenerator();
            tables = new int[size];
            int power = 1;
            for (int n = 0; n < units; n++) {
                tables[n] |= power << POWER;
                tables[power] |= n;
                power = slowProduct(power, generator);
            }
        }

        private static int firstUnsplit(int bits, int start) {
            int size = 1 << bits;
            for (int n = 0; n < size; n++) {
                int candidate = (start + n) & (size - 1);
                if (!splits(size | candidate, bits)) {
                    return candidate;
                }
            }
            return start;
        }

        /** Of two parts the one of the lower degree has at most half of the degree. */
        private static boolean splits(int full, int degree) {
            int end = 1 << (degree / 2 + 1);
            for (int divisor = 2; divisor < end; divisor++) {
                if (restOfBits(full, divisor) == 0) {
                    return true;
                }
            }
            return false;
        }

        private static int restOfBits(int a, int divisor) {
            int low = highestBit(divisor);
            int rest = a;
            for (int k = highestBit(a); k >= low; k--) {
                if ((rest >> k & 1) != 0) {
                    rest ^= divisor << (k - low);
                }
            }
            return rest;
        }

        private static int highestBit(int a) {
            return 31 - Integer.numberOfLeadingZeros(a);
        }

        /** The product by shifts, for the time before there are tables. */
        private int slowProduct(int a, int b) {
            int result = 0;
            int shifted = a;
            for (int k = 0; k < bits && b >> k != 0; k++) {
                if ((b >> k & 1) != 0) {
                    result ^= shifted;
                }
                shifted <<= 1;
                if (shifted >= size) {
                    shifted ^= size | poly;
                }
            }
            return result;
        }

        private int slowPower(int a, int n) {
            int result = 1;
            int square = a;
            for (int k = 0; k < bits; k++) {
                if ((n >> k & 1) != 0) {
                    result = slowProduct(result, square);
                }
                square = slowProduct(square, square);
            }
            return result;
        }

        private int leastGenerator() {
            for (int a = 2; a < size; a++) {
                if (generates(a)) {
                    return a;
                }
            }
            return 1;
        }

        /** The order of a member divides units: a lower one divides units by one of the primes. */
        private boolean generates(int a) {
            for (int prime : PRIMES) {
                if (units % prime == 0 && slowPower(a, units / prime) == 1) {
                    return false;
                }
            }
            return true;
        }

        int logOf(int a) {
            return tables[a] & LOG;
        }

        int mul(int a, int b) {
            if (a == 0 || b == 0) {
                return 0;
            }
            int n = (tables[a] & LOG) + (tables[b] & LOG);
            return tables[n < units ? n : n - units] >>> POWER;
        }

        /** 1 by a; 0 for 0, which callers keep away. */
        int inverse(int a) {
            int log = tables[a] & LOG;
            return a == 0 ? 0 : tables[log == 0 ? 0 : units - log] >>> POWER;
        }

        int ratio(int a, int b) {
            return mul(a, inverse(b));
        }

        int raised(int a, long n) {
            if (a == 0) {
                return n == 0 ? 1 : 0;
            }
            long turn = n % units;
            long steps = turn < 0 ? turn + units : turn;
            return tables[(int) (logOf(a) * steps % units)] >>> POWER;
        }

        int orderOf(int a) {
            if (a == 0) {
                return 0;
            }
            int result = units;
            for (int prime : PRIMES) {
                if (result % prime == 0 && logOf(a) % prime == 0) {
                    result /= prime;
                }
            }
            return result;
        }

        /** Adds the factor's multiple of count elements of source to as many of target. */
        void addMultiple(int[] target, int at, int[] source, int from, int count, int factor) {
            if (factor == 0) {
                return;
            }
            int log = tables[factor] & LOG;
            for (int k = 0; k < count; k++) {
                int member = source[from + k];
                if (member != 0) {
                    int n = log + (tables[member] & LOG);
                    target[at + k] ^= tables[n < units ? n : n - units] >>> POWER;
                }
            }
        }

        void scale(int[] target, int count, int factor) {
            for (int k = 0; k < count; k++) {
                target[k] = mul(target[k], factor);
            }
        }
    }

    /** Cells row by row. */
    private static final class Matrix {
        final int rows;
        final int columns;
        final int[] cells;

        Matrix(int rows, int columns) {
            this.rows = rows;
            this.columns = columns;
            cells = new int[rows * columns];
        }
    }

    /** Rows that are freed, column by column, from all but one member: for all that asks for it. */
    private static final class Elimination {
        private final Field field;
        private final int[][] cells = new int[MOST_SIDE][2 * MOST_SIDE];
        /** By column: the row that alone has a member there, NONE if columns ahead make it. */
        private final int[] pivotRows = new int[MOST_SIDE];
        private int height;
        private int width;
        private int rank;
        int pivotProduct;

        Elimination(Field field) {
            this.field = field;
        }

        void load(Matrix m) {
            height = m.rows;
            width = m.columns;
            for (int i = 0; i < height; i++) {
                System.arraycopy(m.cells, i * width, cells[i], 0, width);
            }
        }

        void appendIdentity() {
            for (int i = 0; i < height; i++) {
                for (int j = 0; j < height; j++) {
                    cells[i][width + j] = i == j ? 1 : 0;
                }
            }
            width += height;
        }

        void appendColumn(int[] members) {
            for (int i = 0; i < height; i++) {
                cells[i][width] = members[i];
            }
            width++;
        }

        /** Frees the first columns, and answers how many of them are made by none ahead. */
        int reduce(int columns) {
            rank = 0;
            pivotProduct = 1;
            for (int j = 0; j < columns; j++) {
                int found = rowWithMember(j);
                pivotRows[j] = found < 0 ? NONE : rank;
                if (found >= 0) {
                    exchange(found, rank);
                    pivotProduct = field.mul(pivotProduct, cells[rank][j]);
                    free(j);
                    rank++;
                }
            }
            return rank;
        }

        private int rowWithMember(int column) {
            for (int i = rank; i < height; i++) {
                if (cells[i][column] != 0) {
                    return i;
                }
            }
            return NONE;
        }

        private void exchange(int i, int k) {
            for (int j = 0; j < width; j++) {
                int kept = cells[i][j];
                cells[i][j] = cells[k][j];
                cells[k][j] = kept;
            }
        }

        private void free(int column) {
            int[] pivot = cells[rank];
            field.scale(pivot, width, field.inverse(pivot[column]));
            for (int i = 0; i < height; i++) {
                if (i != rank) {
                    field.addMultiple(cells[i], 0, pivot, 0, width, cells[i][column]);
                }
            }
        }

        /** Whether a row without a pivot asks for a member that no column can make. */
        boolean leavesOver(int column) {
            for (int i = rank; i < height; i++) {
                if (cells[i][column] != 0) {
                    return true;
                }
            }
            return false;
        }

        int solution(int j, int column) {
            int pivotRow = pivotRows[j];
            return pivotRow < 0 ? 0 : cells[pivotRow][column];
        }

        void copyAppended(Matrix target) {
            for (int i = 0; i < target.rows; i++) {
                System.arraycopy(cells[i], target.columns, target.cells, i * target.columns,
                        target.columns);
            }
        }
    }

    /** The determinants of all choices of rows and columns, each made from those of one row less. */
    private static final class Minors {
        private final Field field;
        /** By how many rows are chosen, and by the chosen columns' bits. */
        private final int[][] values = new int[MOST_SIDE + 1][1 << MOST_SIDE];

        Minors(Field field) {
            this.field = field;
        }

        /**
         * With the choices of rows rising, the last one with one row less is always the choice
         * without its lowest row: what lies between has that one's rows and more. So one array
         * for each number of rows is enough.
         */
        int countZeros(Matrix m) {
            values[0][0] = 1;
            int zeros = 0;
            for (int chosenRows = 1; chosenRows < 1 << m.rows; chosenRows++) {
                int count = Integer.bitCount(chosenRows);
                int lowest = Integer.numberOfTrailingZeros(chosenRows);
                zeros += addRow(m, lowest, count);
            }
            return zeros;
        }

        private int addRow(Matrix m, int row, int count) {
            int zeros = 0;
            for (int chosen = 1; chosen < 1 << m.columns; chosen++) {
                if (Integer.bitCount(chosen) == count) {
                    int minor = expanded(m, row, chosen, values[count - 1]);
                    values[count][chosen] = minor;
                    zeros += minor == 0 ? 1 : 0;
                }
            }
            return zeros;
        }

        private int expanded(Matrix m, int row, int chosen, int[] smaller) {
            int sum = 0;
            for (int j = 0; j < m.columns; j++) {
                if ((chosen >> j & 1) != 0) {
                    sum ^= field.mul(m.cells[row * m.columns + j], smaller[chosen ^ 1 << j]);
                }
            }
            return sum;
        }
    }

    /** Coefficients of x to the 0, 1, ..; those above the degree are 0. */
    private static final class Polynomial {
        final int[] at;
        /** The degree. */
        int top = NONE;
        /** By degree, once asked for: a kept polynomial stays as it is, and to count again is dear. */
        int[] partCounts = null;

        Polynomial(int room) {
            at = new int[room];
        }

        void clear() {
            for (int k = 0; k <= top; k++) {
                at[k] = 0;
            }
            top = NONE;
        }

        void load(int[] source, int count) {
            clear();
            System.arraycopy(source, 0, at, 0, count);
            settle(count - 1);
        }

        void copyFrom(Polynomial other) {
            load(other.at, other.top + 1);
        }

        /** The degree becomes that of the highest coefficient that is not 0 up to the told one. */
        void settle(int highest) {
            int k = highest;
            while (k >= 0 && at[k] == 0) {
                k--;
            }
            top = k < 0 ? NONE : k;
        }

        void addScaled(Field field, Polynomial other, int factor) {
            field.addMultiple(at, 0, other.at, 0, other.top + 1, factor);
            settle(Math.max(top, other.top));
        }

        void addMember(int member) {
            at[0] ^= member;
            settle(Math.max(top, 0));
        }

        void becomeX() {
            clear();
            at[1] = 1;
            top = 1;
        }

        /** Becomes the quotient by x to the count, its lower coefficients being lost. */
        void shiftDown(int count) {
            for (int k = 0; k <= top; k++) {
                at[k] = k + count <= top ? at[k + count] : 0;
            }
            settle(top - count);
        }
    }

    /** Quotients, rests and greatest divisors; the first polynomial becomes the answer. */
    private static final class Division {
        /** More rests than two polynomials can leave one after another, each of a lower degree. */
        private static final int MOST_RESTS = 2 * WORK_ROOM;

        private final Field field;

        Division(Field field) {
            this.field = field;
        }

        void toRest(Polynomial a, Polynomial divisor) {
            if (divisor.top < 0 || a.top < divisor.top) {
                return;
            }
            divideInPlace(a, divisor);
            for (int k = divisor.top; k <= a.top; k++) {
                a.at[k] = 0;
            }
            a.settle(divisor.top - 1);
        }

        void toQuotient(Polynomial a, Polynomial divisor) {
            if (divisor.top < 0 || a.top < divisor.top) {
                a.clear();
                return;
            }
            divideInPlace(a, divisor);
            a.shiftDown(divisor.top);
        }

        /** Leaves the rest below the divisor's degree, and the quotient's coefficients from it on. */
        private void divideInPlace(Polynomial a, Polynomial divisor) {
            int low = divisor.top;
            int inverse = field.inverse(divisor.at[low]);
            for (int k = a.top; k >= low; k--) {
                int factor = field.mul(a.at[k], inverse);
                field.addMultiple(a.at, k - low, divisor.at, 0, low, factor);
                a.at[k] = factor;
            }
        }

        /** Both have to be worked in: what was in b is lost. */
        void toGreatestDivisor(Polynomial a, Polynomial b) {
            Polynomial big = a;
            Polynomial small = b;
            for (int k = 0; k < MOST_RESTS && small.top >= 0; k++) {
                toRest(big, small);
                Polynomial rest = big;
                big = small;
                small = rest;
            }
            if (big != a) {
                a.copyFrom(big);
            }
            if (a.top >= 0) {
                field.scale(a.at, a.top + 1, field.inverse(a.at[a.top]));
            }
        }

        /** Divides by x + v if that leaves no rest, or answers that it leaves one, a being lost. */
        boolean takeOut(Polynomial a, int v) {
            for (int k = a.top - 1; k >= 0; k--) {
                a.at[k] ^= field.mul(a.at[k + 1], v);
            }
            if (a.at[0] != 0) {
                return false;
            }
            a.shiftDown(1);
            return true;
        }

        /** The square has the squares of the coefficients: all else is there twice. */
        void toSquareRest(Polynomial a, Polynomial divisor) {
            if (a.top < 0 || a.top > MOST_DEGREE) {
                return;
            }
            for (int k = a.top; k >= 0; k--) {
                int member = a.at[k];
                a.at[k] = 0;
                a.at[2 * k] = field.mul(member, member);
            }
            a.top = 2 * a.top;
            toRest(a, divisor);
        }
    }

    /** The polynomial through points, by Newton's differences. */
    private static final class Interpolation {
        private final Field field;
        private final int[] xs = new int[MOST_DEGREE + 1];
        private final int[] ys = new int[MOST_DEGREE + 1];

        Interpolation(Field field) {
            this.field = field;
        }

        void take(int k, int x, int y) {
            xs[k] = x;
            ys[k] = y;
        }

        void run(int count, Polynomial result) {
            for (int apart = 1; apart < count; apart++) {
                for (int i = count - 1; i >= apart; i--) {
                    ys[i] = field.ratio(ys[i] ^ ys[i - 1], xs[i] ^ xs[i - apart]);
                }
            }
            result.clear();
            for (int i = count - 1; i >= 0; i--) {
                multiplyAndAdd(result, xs[i], ys[i]);
            }
        }

        /** The result becomes its product by x + v, and a member more. */
        private void multiplyAndAdd(Polynomial result, int v, int member) {
            int top = result.top + 1;
            for (int k = top; k >= 0; k--) {
                int below = k > 0 ? result.at[k - 1] : member;
                result.at[k] = field.mul(result.at[k], v) ^ below;
            }
            result.settle(top);
        }
    }

    /**
     * Roots without a try of every member. The members below 2 to the j are closed under xor, so
     * the polynomial with just them as roots has no other powers of x than x to the 1, 2, 4, ..:
     * each follows from the one ahead by a square, and has one value for all members that differ
     * in their lower j bits alone. A greatest divisor with it, less that value, has the roots
     * among those members; so a root is found bit by bit, from the highest on.
     */
    private static final class Roots {
        private final Field field;
        private final Division division;
        /** Polynomial j's value at 2 to the j. */
        private final int[] steps;
        /** Polynomial j's rest by the one whose roots are sought. */
        private final Polynomial[] rests;
        private final Polynomial left = new Polynomial(WORK_ROOM);
        private final Polynomial lower = new Polynomial(WORK_ROOM);
        private final Polynomial other = new Polynomial(WORK_ROOM);

        Roots(Field field, Division division) {
            this.field = field;
            this.division = division;
            steps = new int[field.bits];
            for (int j = 0; j < field.bits; j++) {
                steps[j] = valueAt(j, 1 << j);
            }
            rests = new Polynomial[field.bits + 1];
            for (int j = 0; j <= field.bits; j++) {
                rests[j] = new Polynomial(MOST_DEGREE + 1);
            }
        }

        private int valueAt(int j, int member) {
            int result = member;
            for (int k = 0; k < j; k++) {
                result = field.mul(result, result ^ steps[k]);
            }
            return result;
        }

        private void makeRests(Polynomial f) {
            other.becomeX();
            division.toRest(other, f);
            rests[0].copyFrom(other);
            for (int j = 0; j < field.bits; j++) {
                division.toSquareRest(other, f);
                other.addScaled(field, rests[j], steps[j]);
                rests[j + 1].copyFrom(other);
            }
        }

        /** The k-th root of a polynomial that is not 0. */
        int find(Polynomial f, int k) {
            if (k >= f.top) {
                return NONE;
            }
            makeRests(f);
            left.copyFrom(f);
            other.copyFrom(rests[field.bits]);
            division.toGreatestDivisor(left, other);
            if (k >= left.top) {
                return NONE;
            }
            int prefix = 0;
            int ahead = k;
            for (int j = field.bits - 1; j >= 0 && left.top > 1; j--) {
                keepLower(j, prefix);
                if (ahead < lower.top) {
                    left.copyFrom(lower);
                } else {
                    ahead -= lower.top;
                    prefix |= 1 << j;
                    division.toQuotient(left, lower);
                }
            }
            return field.ratio(left.at[0], left.at[1]);
        }

        /** Of the roots that are left, all with this prefix, those without bit j. */
        private void keepLower(int j, int prefix) {
            lower.copyFrom(left);
            other.copyFrom(rests[j]);
            other.addMember(valueAt(j, prefix));
            division.toGreatestDivisor(lower, other);
        }
    }

    /** Counts the parts of each degree: x to the size to the d, less x, has all parts whose degrees divide d. */
    private static final class Factors {
        private final Field field;
        private final Division division;
        private final Polynomial left = new Polynomial(WORK_ROOM);
        private final Polynomial power = new Polynomial(WORK_ROOM);
        private final Polynomial shared = new Polynomial(WORK_ROOM);
        private final Polynomial other = new Polynomial(WORK_ROOM);

        Factors(Field field, Division division) {
            this.field = field;
            this.division = division;
        }

        /** Fills counts, by degree, for a polynomial that is not 0. */
        void count(Polynomial f, int[] counts) {
            left.copyFrom(f);
            power.becomeX();
            division.toRest(power, left);
            // What is left has no part below degree d: below twice d it has one part at most.
            for (int d = 1; 2 * d <= left.top; d++) {
                for (int k = 0; k < field.bits; k++) {
                    division.toSquareRest(power, left);
                }
                counts[d] = takeParts(d);
                division.toRest(power, left);
            }
            if (left.top > 0) {
                counts[left.top] = 1;
            }
        }

        /** Takes all parts of degree d out of what is left, which has none below: how many. */
        private int takeParts(int d) {
            other.becomeX();
            other.addScaled(field, power, 1);
            shared.copyFrom(left);
            division.toGreatestDivisor(shared, other);
            int taken = 0;
            for (int k = 0; k < MOST_DEGREE && shared.top > 0; k++) {
                taken += shared.top / d;
                division.toQuotient(left, shared);
                other.copyFrom(left);
                division.toGreatestDivisor(shared, other);
            }
            return taken;
        }
    }
}
