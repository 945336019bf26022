import java.io.IOException;

/**
 * The document, sentence by sentence: all that its terms and promises say is quoted, and behind
 * each quotation stand the checks that fail if it is broken. A failure is told with its sentence.
 */
public final class EdgesTest {
    public static void main(String[] args) throws IOException {
        Sentences sentences = new Sentences();
        new EdgesOfTerms(sentences).all();
        new EdgesOfLoops(sentences).all();
        new EdgesOfProgram(sentences).all();
        new EdgesOfShapes(sentences).all();
        new EdgesOfDone(sentences).all();
        new EdgesOfSeen(sentences).all();
        new EdgesOfAll(sentences).all();
        sentences.end();
        Checks.end();
    }
}
