/** Each sentence of the document that names a boundary has a test of its own, which names its promise. */
final class SentencesTest {
    public static void main(String[] args) {
        Sentences s = new Sentences();
        new ThingSentences(s).run();
        new TimeSentences(s).run();
        new StepSentences(s).run();
        new RuleSentences(s).run();
        new BuildSentences(s).run();
        new GameSentences(s).run();
        new MasterSentences(s).run();
        new ToldSentences(s).run();
        s.end();
    }
}
