/** The document's sentences that name an edge, one by one; each answer says which sentence it holds to. */
public final class EdgesTest {
    public static void main(String[] args) {
        TapeEdges.all();
        TextEdges.all();
        RefusalEdges.all();
        OweEdges.all();
        WayEdges.all();
        WorthEdges.all();
        PaperEdges.all();
        Sentence.constant("`NONE = -1`: There is none; refused.");
        Check.due("NONE", TollBars.NONE, -1);
        Sentence.allSpoken();
        Check.end("EdgesTest");
    }
}
