import java.io.IOException;
import java.nio.file.Path;

/** Each sentence of the document has a test of its own, at the bounds that it names. */
public final class SentencesTest {
    public static void main(String[] args) throws IOException {
        Check check = new Check();
        Probe probe = new Probe(check);
        Sentences sentences = new Sentences(check);
        new PlatformSentences(check, probe, sentences).ask();
        new HypothesesSentences(check, probe, sentences).ask();
        new TrialsSentences(check, probe, sentences).ask();
        new SupportersSentences(check, probe, sentences).ask();
        new StateSentences(check, probe, sentences).ask();
        sentences.compareWith(Path.of("../shared/DOC.md"));
        check.finish();
    }
}
