import java.io.IOException;

/** For each sentence of the document a test of its own, named by the sentence. */
public final class SentenceTests {
    public static void main(String[] args) throws IOException {
        Sentences sentences = new Sentences();
        run(sentences);
        sentences.compareWithDocument();
        System.out.println("SentenceTests: " + sentences.summary());
        if (!sentences.broken().isEmpty()) {
            System.exit(1);
        }
    }

    static void run(Sentences sentences) {
        GrammarSentences.run(sentences);
        BookSentences.run(sentences);
        TextSentences.run(sentences);
        CallSentences.run(sentences);
        sentences.endTest();
    }
}
