/** Every sentence of the document's Terms and promises, each with a test of its own. */
public final class SentencesTest {
    public static void main(String[] args) {
        Sentences.open();
        PointerSentences.all();
        BuildingSentences.all();
        OctetSentences.all();
        OrderSentences.all();
        ReadingSentences.all();
        CanonicalSentences.all();
        Sentences.close();
        Check.end();
    }
}
