import java.io.IOException;

/**
 * Each sentence of the document's Terms and promises that names an edge has a test of its own, behind the
 * sentence itself; a sentence without one fails.
 */
public final class EdgesTest {
    public static void main(String[] args) throws IOException {
        Sentences doc = new Sentences();
        Refusals refusals = new Refusals(doc);
        new TextEdges(doc).all();
        new MinuteEdges(doc).all();
        new AheadEdges(doc).all();
        new DaysEdges(doc).all();
        new StatusEdges(doc, refusals).all();
        new PromiseEdges(doc, refusals).all();
        new LaterPromiseEdges(doc, refusals).all();
        refusals.allSeen();
        doc.end();
    }
}
