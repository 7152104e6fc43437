import java.io.IOException;

/** The edges that the document names, promise by promise. */
public final class EdgesTest {
    public static void main(String[] args) throws IOException {
        RowsEdges.all();
        TextsEdges.all();
        BooksEdges.all();
        BindsEdges.all();
        CasesEdges.all();
        DeedsEdges.all();
        FlipsEdges.all();
        OrdersEdges.all();
        FitsEdges.all();
        ToldEdges.all();
        Document.hold();
        System.out.println("EdgesTest: " + Edges.quotes().size() + " tests");
        Checks.end("EdgesTest");
    }
}
