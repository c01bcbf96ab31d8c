/** Each sentence of the document, word by word, with a test that would fail if it were broken. */
public final class BoundaryTest {
    public static void main(String[] arguments) {
        Sentences.read();
        Sentences.freeSection("TypeTutor");
        // FaceTest is of the face.
        Sentences.freeSection("The public face");
        Sentences.freeSection("Not promised");
        FormSentences.all();
        TypeSentences.all();
        RuleSentences.all();
        PromiseSentences.all();
        LineSentences.all();
        Sentences.tellTheRest();
        Checks.end("BoundaryTest");
    }
}
