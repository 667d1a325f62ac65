/**
 * Boundary cases, sentence by sentence: each failure names the promise and the sentence. It fails too if a sentence
 * of the document is named by no test, if one named is not in the document, or not asked of a promise that it binds.
 */
public final class EdgesTest {
    public static void main(String[] args) throws Exception {
        TextEdges.hold();
        SittingEdges.hold();
        FactEdges.hold();
        ReckoningEdges.hold();
        SayEdges.hold();
        int missing = Edge.missing();
        System.out.println(Edge.many() + " sentences of the document are named; of " + missing + " a test is missing");
        if (missing != 0) {
            System.exit(1);
        }
        Due.end();
    }
}
