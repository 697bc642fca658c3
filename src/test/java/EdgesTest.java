/** Each sentence of the document that names a boundary, promise by promise; no sentence is left without a test. */
public final class EdgesTest {
    public static void main(String[] args) {
        LadderEdges.all();
        RunningEdges.all();
        TextEdges.all();
        UndoEdges.all();
        LooksEdges.all();
        LeadsEdges.all();
        RaceEdges.all();
        ShareEdges.all();
        // these name no boundary, and no answer
        Sentences.allTested("Sluggish relays drawn as ladders", "All numbers are integers", "Inputs, relays, rungs",
            "Ahead of the calls", "Returns the property.", "Returns the number");
        Check.end();
    }
}
