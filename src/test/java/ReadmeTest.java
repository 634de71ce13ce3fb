import java.io.IOException;
import java.net.URL;
import java.net.URLClassLoader;
import java.nio.file.Files;
import java.nio.file.Path;
import java.util.ArrayList;
import java.util.Comparator;
import java.util.List;
import java.util.regex.Matcher;
import java.util.regex.Pattern;
import java.util.stream.Stream;

/** The examples of README.md compile, and each call there answers what is written behind it. */
public final class ReadmeTest {
    private static final Path README = Check.MAIN.toAbsolutePath().getParent().resolve("../../../README.md");
    /** A call, and behind it a number or what is thrown, and then an end or ': words'. */
    private static final Pattern ANSWERED =
            Pattern.compile("(?:int (\\w+) = )?(.*);\\s*// (-?\\d+|throws \\w+)(?:: .*)?");

    public static void main(String[] args) throws Exception {
        Path work = Files.createTempDirectory("readme");
        try {
            run(work, examples(Files.readAllLines(README)));
        } finally {
            remove(work);
        }
        Check.end();
    }

    /** All blocks of Java, as one: later ones go on with what earlier ones made. */
    private static List<String> examples(List<String> lines) {
        List<String> code = new ArrayList<>();
        boolean inside = false;
        for (String line : lines) {
            if (line.startsWith("```")) {
                inside = line.equals("```java");
            } else if (inside) {
                code.add(line);
            }
        }
        return code;
    }

    private static void run(Path work, List<String> code) throws Exception {
        Path file = Files.writeString(work.resolve("Examples.java"), program(code));
        int compiled = new ProcessBuilder("javac", "-encoding", "UTF-8", "-cp", System.getProperty("java.class.path"),
                "-d", work.toString(), file.toString()).inheritIO().start().waitFor();
        Check.same("compiling the examples", compiled, 0);
        if (compiled != 0) {
            return;
        }
        try (URLClassLoader loader = new URLClassLoader(new URL[] {work.toUri().toURL()})) {
            String[][] told = (String[][]) loader.loadClass("Examples").getMethod("run").invoke(null);
            Check.holds("README.md has examples with answers", told.length > 0);
            for (String[] one : told) {
                Check.same(one[0], one[1], one[2]);
            }
        }
    }

    /** It knows nothing of the tests' own classes, which another loader's classes can't use. */
    private static String program(List<String> code) {
        StringBuilder program = new StringBuilder("""
                import java.util.ArrayList;
                import java.util.List;
                import java.util.function.IntSupplier;

                public final class Examples {
                    private static final List<String[]> TOLD = new ArrayList<>();

                    private static void tell(String call, IntSupplier asked, String due) {
                        String outcome;
                        try {
                            outcome = String.valueOf(asked.getAsInt());
                        } catch (RuntimeException e) {
                            outcome = "throws " + e.getClass().getSimpleName();
                        }
                        TOLD.add(new String[] {call, outcome, due});
                    }

                    public static String[][] run() {
                """);
        for (String line : code) {
            Matcher answered = ANSWERED.matcher(line);
            program.append(answered.matches() ? telling(answered) : line).append('\n');
        }
        return program.append("return TOLD.toArray(new String[0][]);\n}\n}\n").toString();
    }

    private static String telling(Matcher answered) {
        String name = answered.group(1);
        String call = answered.group(2).trim();
        String made = name == null ? "" : "int " + name + " = " + call + ";\n";
        String asked = name == null ? call : name;
        return made + "tell(\"" + call + "\", () -> " + asked + ", \"" + answered.group(3) + "\");";
    }

    private static void remove(Path work) throws IOException {
        try (Stream<Path> files = Files.walk(work)) {
            for (Path file : files.sorted(Comparator.reverseOrder()).toList()) {
                Files.delete(file);
            }
        }
    }
}
