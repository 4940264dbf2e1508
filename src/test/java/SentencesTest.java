import java.io.IOException;

/** Each sentence of the document, with a test of its own. */
public final class SentencesTest {
    public static void main(String[] args) throws IOException {
        Sentences.read();
        WholeSentences.run();
        HallSentences.run();
        OrderSentences.run();
        BatchSentences.run();
        RouteSentences.run();
        ScheduleSentences.run();
        PickingSentences.run();
        SetupSentences.run();
        SavedSentences.run();
        Sentences.end();
        Check.end("SentencesTest");
    }
}
