import java.io.IOException;
import java.util.Map;

/** Each sentence of the document, at its bounds and on both sides of them; no sentence may be left without a test. */
public final class EdgesTest {
    public static void main(String[] args) throws IOException {
        Checks checks = new Checks();
        Sentences sentences = new Sentences();
        Edges[] parts = {
            new TextEdges(checks, sentences),
            new ErrorEdges(checks, sentences),
            new StreamEdges(checks, sentences),
            new LogAndChangeEdges(checks, sentences),
            new ReadingEdges(checks, sentences),
            new ForesightEdges(checks, sentences),
            new CallEdges(checks, sentences),
        };
        for (Edges part : parts) {
            part.run();
        }
        checks.at("the document's sentences");
        for (Map.Entry<String, String> left : sentences.unquoted().entrySet()) {
            checks.due("what no test is about in " + left.getKey(), left.getValue(), "");
        }
        checks.end();
    }
}
