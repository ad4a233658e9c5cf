/** Every boundary that the document names, sentence by sentence; what no test names comes to light at the end. */
public final class EdgesTest {
    public static void main(String[] args) {
        OpeningEdges.run();
        TermsEdges.run();
        MarksEdges.run();
        WorthEdges.run();
        GradesEdges.run();
        DoubtsEdges.run();
        MarkersEdges.run();
        SheetsEdges.run();
        RefusalsEdges.run();
        Edges.end();
    }
}
