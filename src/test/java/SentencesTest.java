import java.io.IOException;

/** For each sentence of "Terms" and of the promises the answers that are due by it, its boundary cases above all. */
public final class SentencesTest {
    private SentencesTest() {
    }

    public static void main(String[] args) throws IOException {
        Sentences.read();
        RefusalSentences.run();
        PlanSentences.run();
        SearchSentences.run();
        TextSentences.run();
        HistorySentences.run();
        if (Sentences.end() != 0) {
            System.exit(1);
        }
    }
}
