/** Each sentence of the document, promise by promise; none is left without a test. */
public final class EdgesTest {
    public static void main(String[] args) {
        FaceEdges.all();
        LadderEdges.all();
        RunningEdges.all();
        TextEdges.all();
        UndoEdges.all();
        LooksEdges.all();
        LeadsEdges.all();
        RaceEdges.all();
        ShareEdges.all();
        // a heading, that says nothing by itself
        Sentences.allTested("Inputs, relays, rungs");
        Check.end();
    }
}
