import java.io.IOException;
import java.io.UncheckedIOException;
import java.nio.file.Files;
import java.util.ArrayList;
import java.util.List;

/** The document's words by promise (0 stands for what holds for all), and which of them a test has quoted. */
final class Document {
    private static final int PROMISES = 39;

    private final String[] texts = new String[PROMISES + 1];
    private final boolean[][] quoted = new boolean[PROMISES + 1][];

    Document() {
        String whole = read();
        texts[0] = between(whole, "An object is used for", "## The public face")
                + between(whole, "MEMBERS are", "Ahead of the calls");
        for (int promise = 1; promise <= PROMISES; promise++) {
            String section = between(whole, "## Promise " + promise + ":", "\n## ");
            // Behind the signature, which is FaceTest's.
            texts[promise] = section.substring(section.indexOf("`: ") + 3);
        }
        for (int promise = 0; promise <= PROMISES; promise++) {
            quoted[promise] = new boolean[texts[promise].length()];
        }
    }

    private static String read() {
        try {
            return Files.readString(Check.DOCUMENT);
        } catch (IOException e) {
            throw new UncheckedIOException(e);
        }
    }

    private static String between(String whole, String first, String behind) {
        int start = whole.indexOf(first);
        return whole.substring(start, whole.indexOf(behind, start + first.length()));
    }

    /** Whether a promise has these words at just one place. */
    boolean quote(int promise, String words) {
        int at = texts[promise].indexOf(words);
        if (at < 0 || texts[promise].indexOf(words, at + 1) >= 0) {
            return false;
        }
        for (int k = at; k < at + words.length(); k++) {
            quoted[promise][k] = true;
        }
        return true;
    }

    /** Each run of words that no test has quoted. */
    List<String> unquoted() {
        List<String> found = new ArrayList<>();
        for (int promise = 0; promise <= PROMISES; promise++) {
            StringBuilder words = new StringBuilder();
            for (int k = 0; k <= texts[promise].length(); k++) {
                if (k < texts[promise].length() && !quoted[promise][k]) {
                    words.append(texts[promise].charAt(k));
                } else {
                    if (words.chars().anyMatch(Character::isLetterOrDigit)) {
                        found.add("promise " + promise + ": " + words.toString().trim());
                    }
                    words.setLength(0);
                }
            }
        }
        return found;
    }
}
