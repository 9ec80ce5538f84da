import java.io.IOException;

/** Each sentence of the document by a test of its own, in the document's order. */
public final class SentencesTest {
    public static void main(String[] args) throws IOException {
        Sentences doc = new Sentences();
        CoastEdges.run(doc);
        SightEdges.run(doc);
        ActsEdges.run(doc);
        SeenEdges.run(doc);
        UnknownEdges.run(doc);
        ChancesEdges.run(doc);
        RefusalEdges.run(doc);
        doc.nothingIsLeft();
        Due.end("SentencesTest");
    }
}
