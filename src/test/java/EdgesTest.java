import java.io.IOException;

/** Every sentence of the document that names an edge: the last value inside, the first one outside. */
final class EdgesTest {
    public static void main(String[] args) throws IOException {
        SummaryEdges.look();
        NumberEdges.look();
        NetworkEdges.look();
        CallEdges.look();
        ConnectedEdges.look();
        SetupEdges.look();
        ActEdges.look();
        AskingEdges.look();
        CheapestEdges.look();
        TextEdges.look();
        HistoryEdges.look();
        Document.isTested(Check.sentences());
        Check.finish();
    }
}
