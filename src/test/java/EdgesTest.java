import java.io.IOException;

/** One test for each sentence of the document that names a boundary; it fails if a sentence has none. */
public final class EdgesTest {
    private EdgesTest() {
    }

    public static void main(String[] args) throws IOException {
        Edges e = new Edges(new Doc());
        TermsEdges.run(e);
        HousesEdges.run(e);
        BeardsEdges.run(e);
        WearersEdges.run(e);
        NightsEdges.run(e);
        BestEdges.run(e);
        TextEdges.run(e);
        SheetsEdges.run(e);
        ImagesEdges.run(e);
        e.end();
    }
}
