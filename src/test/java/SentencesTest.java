import java.util.List;

/** Every sentence of the document that names a bound has a test of its own, and no words are without one. */
public final class SentencesTest {
    public static void main(String[] args) {
        TermSentences.all();
        FieldSentences.all();
        RowSentences.all();
        MatrixSentences.all();
        PolynomialSentences.all();
        SpanSentences.all();
        Check.same("words without a test", Sentences.DOCUMENT.unquoted(), List.of());
        Check.end();
    }
}
