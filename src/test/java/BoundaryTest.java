import java.io.IOException;

/** Every sentence of the document, with the edges that it names; needs the document's path. */
public final class BoundaryTest {
    public static void main(String[] args) throws IOException {
        Document.open(args.length > 1 ? args[1] : "../shared/DOC.md");
        TermsEdges.all();
        TermsRunEdges.all();
        TextEdges.all();
        GuardEdges.all();
        RunEdges.all();
        CostEdges.all();
        ReadYetEdges.all();
        ChangeEdges.all();
        SheetEdges.all();
        Document.close();
        Check.finish();
    }
}
