/** Each sentence of the document with a test of its own, in the document's order. */
public final class SentencesTest {
    public static void main(String[] args) {
        Sentences s = new Sentences();
        OpeningSentences.all(s);
        FaceSentences.all(s);
        TermsSentences.all(s);
        TableSentences.all(s);
        MorningSentences.all(s);
        TriedSentences.all(s);
        SeenSentences.all(s);
        FaceSentences.parts(s);
        FaceSentences.promises(s);
        TableSentences.promises(s);
        MorningSentences.promises(s);
        TriedSentences.promises(s);
        SeenSentences.promises(s);
        s.end("SentencesTest");
    }
}
