import java.util.ArrayList;
import java.util.List;

/**
 * The class as the tests ask it: no object gets more than the 512 calls for which the document speaks. Behind
 * them a new object takes over, on which those calls are made again that changed something or threw.
 */
final class Subject {
    private interface Call {
        int run(ByteFields fields);
    }

    private record Done(Call call, String outcome) {
    }

    static final int MOST_CALLS = 512;

    private final int bits;
    private final int start;
    private final List<Done> toMakeAgain = new ArrayList<>();
    private ByteFields fields;
    private int calls = 0;

    Subject(int bits, int poly) {
        this.bits = bits;
        start = poly;
        fields = new ByteFields(bits, poly);
    }

    /** How many calls the object that is asked now has had. */
    int calls() {
        return calls;
    }

    /** How many calls a new object would get ahead of the first one that is new. */
    int callsToMakeAgain() {
        return toMakeAgain.size();
    }

    private int answer(Call call) {
        return ask(call, false);
    }

    private int change(Call call) {
        return ask(call, true);
    }

    private int ask(Call call, boolean changes) {
        if (calls == MOST_CALLS) {
            takeOver();
        }
        calls++;
        try {
            int answer = call.run(fields);
            if (changes) {
                toMakeAgain.add(new Done(call, String.valueOf(answer)));
            }
            return answer;
        } catch (RuntimeException e) {
            toMakeAgain.add(new Done(call, Check.thrown(e)));
            throw e;
        }
    }

    private void takeOver() {
        if (toMakeAgain.size() >= MOST_CALLS) {
            throw new AssertionError("this test asks for more than an object is promised for");
        }
        fields = new ByteFields(bits, start);
        for (Done done : toMakeAgain) {
            String outcome = Check.outcome(() -> done.call.run(fields));
            if (!outcome.equals(done.outcome)) {
                Check.same("the same call of a new object", outcome, done.outcome);
            }
        }
        calls = toMakeAgain.size();
    }

    int poly() {
        return answer(ByteFields::poly);
    }

    int generator() {
        return answer(ByteFields::generator);
    }

    int product(int a, int b) {
        return answer(x -> x.product(a, b));
    }

    int quotient(int a, int b) {
        return answer(x -> x.quotient(a, b));
    }

    int power(int a, long n) {
        return answer(x -> x.power(a, n));
    }

    int log(int a) {
        return answer(x -> x.log(a));
    }

    int order(int a) {
        return answer(x -> x.order(a));
    }

    int put(int v) {
        return change(x -> x.put(v));
    }

    int row(int k) {
        return answer(x -> x.row(k));
    }

    int drop() {
        return change(ByteFields::drop);
    }

    int matrix(int rows, int columns) {
        return change(x -> x.matrix(rows, columns));
    }

    int powers(int rows, int columns) {
        return change(x -> x.powers(rows, columns));
    }

    int sums(int rows, int columns) {
        return change(x -> x.sums(rows, columns));
    }

    int size(int matrix, int what) {
        return answer(x -> x.size(matrix, what));
    }

    int cell(int matrix, int i, int j) {
        return answer(x -> x.cell(matrix, i, j));
    }

    int set(int matrix, int i, int j, int v) {
        return change(x -> x.set(matrix, i, j, v));
    }

    int times(int a, int b) {
        return change(x -> x.times(a, b));
    }

    int invert(int matrix) {
        return change(x -> x.invert(matrix));
    }

    int rank(int matrix) {
        return answer(x -> x.rank(matrix));
    }

    int determinant(int matrix) {
        return answer(x -> x.determinant(matrix));
    }

    int singular(int matrix) {
        return answer(x -> x.singular(matrix));
    }

    int solve(int matrix) {
        return change(x -> x.solve(matrix));
    }

    int polynomial() {
        return change(ByteFields::polynomial);
    }

    int through() {
        return change(ByteFields::through);
    }

    int degree(int p) {
        return answer(x -> x.degree(p));
    }

    int coefficient(int p, int k) {
        return answer(x -> x.coefficient(p, k));
    }

    int value(int p, int v) {
        return answer(x -> x.value(p, v));
    }

    int plus(int p, int q) {
        return change(x -> x.plus(p, q));
    }

    int multiply(int p, int q) {
        return change(x -> x.multiply(p, q));
    }

    int divide(int p, int q, boolean rest) {
        return change(x -> x.divide(p, q, rest));
    }

    int common(int p, int q) {
        return change(x -> x.common(p, q));
    }

    int root(int p, int k) {
        return answer(x -> x.root(p, k));
    }

    int often(int p, int v) {
        return answer(x -> x.often(p, v));
    }

    int parts(int p, int d) {
        return answer(x -> x.parts(p, d));
    }

    int span() {
        return change(ByteFields::span);
    }

    int forth(int p) {
        return change(x -> x.forth(p));
    }

    int back() {
        return change(ByteFields::back);
    }

    int told(int what) {
        return answer(x -> x.told(what));
    }
}
