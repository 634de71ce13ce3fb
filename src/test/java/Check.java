import java.io.IOException;
import java.io.UncheckedIOException;
import java.nio.file.Files;
import java.nio.file.Path;
import java.util.ArrayList;
import java.util.HashSet;
import java.util.List;
import java.util.Set;
import java.util.regex.Matcher;
import java.util.regex.Pattern;

/** What the tests count with: every answer that is not the one due is printed. */
final class Check {
    interface Call {
        int run();
    }

    static final Path MAIN = Path.of(System.getProperty("main.source", "src/main/java/ByteFields.java"));
    static final Path DOCUMENT = Path.of(System.getProperty("document", "../shared/DOC.md"));
    private static final Set<String> TEXTS = textsOfThrows();
    private static String about = "";
    private static int asked = 0;
    private static int wrong = 0;

    private Check() {
    }

    /** What the answers to come are about, said ahead of each that is not as due. */
    static void about(String words) {
        about = words;
    }

    static int asked() {
        return asked;
    }

    static void same(String what, Object got, Object want) {
        asked++;
        if (!got.equals(want)) {
            wrong++;
            System.out.println(about + what + " answered " + got + ", due is " + want);
        }
    }

    static void holds(String what, boolean got) {
        same(what, got, true);
    }

    /** The call throws just this class, and changes nothing that can be seen. */
    static void refuses(Subject x, Class<? extends RuntimeException> due, String what, Call call) {
        List<Integer> before = seen(x);
        same(what, outcome(call), "throws." + due.getSimpleName());
        same(what + ", state behind it", seen(x), before);
    }

    static String outcome(Call call) {
        try {
            return String.valueOf(call.run());
        } catch (RuntimeException e) {
            return thrown(e);
        }
    }

    /** An exception of the class has a text that stands in it, or none if so thrown; the machine's have others. */
    static String thrown(Throwable e) {
        String name = e.getClass().getSimpleName();
        return TEXTS.contains(name + ": " + e.getMessage()) ? "throws." + name : "the machine's " + e;
    }

    private static Set<String> textsOfThrows() {
        Set<String> texts = new HashSet<>();
        try {
            Matcher found = Pattern.compile("throw new (\\w+)\\((?:\"([^\"]+)\")?\\)").matcher(Files.readString(MAIN));
            while (found.find()) {
                texts.add(found.group(1) + ": " + found.group(2));
            }
        } catch (IOException e) {
            throw new UncheckedIOException(e);
        }
        return texts;
    }

    /** All that calls can tell of an object without a change. */
    static List<Integer> seen(Subject x) {
        List<Integer> all = new ArrayList<>();
        for (int what = 0; what < 4; what++) {
            all.add(x.told(what));
        }
        all.addAll(rowOf(x));
        for (int m = 0; m < x.told(1); m++) {
            all.addAll(cellsOf(x, m));
        }
        for (int p = 0; p < x.told(2); p++) {
            all.add(x.degree(p));
            all.addAll(coefficientsOf(x, p));
        }
        return all;
    }

    static List<Integer> rowOf(Subject x) {
        List<Integer> members = new ArrayList<>();
        for (int k = 0; k < x.told(0); k++) {
            members.add(x.row(k));
        }
        return members;
    }

    static List<Integer> cellsOf(Subject x, int matrix) {
        List<Integer> cells = new ArrayList<>();
        for (int i = 0; i < x.size(matrix, 0); i++) {
            for (int j = 0; j < x.size(matrix, 1); j++) {
                cells.add(x.cell(matrix, i, j));
            }
        }
        return cells;
    }

    static List<Integer> coefficientsOf(Subject x, int p) {
        List<Integer> all = new ArrayList<>();
        for (int k = 0; k <= x.degree(p); k++) {
            all.add(x.coefficient(p, k));
        }
        return all;
    }

    static void put(Subject x, int... members) {
        for (int member : members) {
            x.put(member);
        }
    }

    static int polynomial(Subject x, int... coefficients) {
        x.drop();
        put(x, coefficients);
        return x.polynomial();
    }

    /** A polynomial with coefficient 1 at these powers, 0 elsewhere. */
    static int ones(Subject x, int... powers) {
        int top = 0;
        for (int power : powers) {
            top = Math.max(top, power);
        }
        int[] coefficients = new int[top + 1];
        for (int power : powers) {
            coefficients[power] = 1;
        }
        return polynomial(x, coefficients);
    }

    static int matrix(Subject x, int rows, int columns, int... cells) {
        int made = x.matrix(rows, columns);
        for (int k = 0; k < cells.length; k++) {
            x.set(made, k / columns, k % columns, cells[k]);
        }
        return made;
    }

    /** As many matrices as there can be. */
    static void fillMatrices(Subject x) {
        while (x.told(1) < 40) {
            x.matrix(1, 1);
        }
    }

    /** As many polynomials as there can be; THE ROW stays as it is. */
    static void fillPolynomials(Subject x) {
        List<Integer> members = rowOf(x);
        x.drop();
        while (x.told(2) < 40) {
            x.polynomial();
        }
        for (int member : members) {
            x.put(member);
        }
    }

    static void end() {
        System.out.println(asked + " answers, " + wrong + " not as due");
        if (wrong != 0) {
            System.exit(1);
        }
    }
}
