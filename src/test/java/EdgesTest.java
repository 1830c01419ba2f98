/** Every sentence of the document's terms and promises has a test of its own; no word of them is left out. */
public final class EdgesTest extends Check {
    public static void main(String[] args) {
        TermEdges.go();
        RowEdges.go();
        TextEdges.go();
        LandEdges.go();
        ActEdges.go();
        GuessEdges.go();
        FateEdges.go();
        AskEdges.go();
        allIsQuoted();
        end();
    }

    private static void allIsQuoted() {
        for (String words : Document.unquoted()) {
            due("no test quotes " + words, 1, 0);
        }
    }
}
