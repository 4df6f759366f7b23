/** Each sentence of the document, with a test of its own: the boundary that it names, and both sides of it. */
public final class SentencesTest {
    public static void main(String[] args) throws Exception {
        Sentences sentences = new Sentences();
        TextSentences.all(sentences);
        GrammarSentences.all(sentences);
        PrecedenceSentences.all(sentences);
        RangeSentences.all(sentences);
        SolutionSentences.all(sentences);
        ThrowSentences.all(sentences);
        RegistrySentences.all(sentences);
        SolverSentences.all(sentences);
        sentences.checkAllQuoted();
        System.out.println("SentencesTest: " + sentences.count() + " sentences, " + Checks.made() + " answers");
        Checks.end("SentencesTest");
    }
}
