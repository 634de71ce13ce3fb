import java.io.IOException;
import java.nio.file.Files;
import java.nio.file.Path;
import java.util.List;
import java.util.stream.Stream;

/** The tests ask no object for more than the document speaks of: all go by Subject, and Subject sees to it. */
public final class SubjectTest {
    public static void main(String[] args) throws IOException {
        takesOver();
        onlySubjectMakesObjects();
        Check.end();
    }

    private static void takesOver() {
        Subject x = new Subject(8, 29);
        Check.put(x, 7, 9);
        Check.refuses(x, IllegalStateException.class, "powers", () -> x.powers(3, 1));
        x.matrix(1, 1);
        int most = 0;
        for (int n = 0; n < 2000; n++) {
            Check.same("product", x.product(2, 128), 29);
            most = Math.max(most, x.calls());
        }
        Check.same("the most calls of one object", most, 512);
        Check.same("calls that a new object gets again", x.callsToMakeAgain(), 4);
        Check.same("the row on the new object", Check.rowOf(x), List.of(7, 9));
        Check.same("the matrix on the new object", x.set(0, 0, 0, 5), 0);
    }

    private static void onlySubjectMakesObjects() throws IOException {
        Path tests = Check.MAIN.getParent().getParent().getParent().resolve("test").resolve("java");
        String made = "new " + "ByteFields(";
        try (Stream<Path> files = Files.list(tests)) {
            for (Path file : files.toList()) {
                boolean makes = Files.readString(file).contains(made);
                Check.same(file.getFileName() + " makes objects", makes, file.endsWith("Subject.java"));
            }
        }
    }
}
