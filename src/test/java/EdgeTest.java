/**
 * The edges of the document, sentence by sentence. Each check is about the sentence that is quoted before it; at the
 * end every sentence of the terms and the promises must have been quoted.
 */
public final class EdgeTest {
    public static void main(String[] args) throws Exception {
        Doc.read();
        TermEdges.run();
        TextEdges.run();
        ValueEdges.run();
        InputEdges.run();
        IndexEdges.run();
        ChangeEdges.run();
        UndoEdges.run();
        StateEdges.run();
        TreeEdges.run();
        BestEdges.run();
        OutputEdges.run();
        Doc.finish();
        Check.finish("EdgeTest");
    }
}
