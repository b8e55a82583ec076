/** The boundary cases that the document names, each sentence with a test of its own. */
final class EdgesTest {
    public static void main(String[] args) throws Exception {
        Edges edges = new Edges();
        edges.run(HoleEdges.class);
        edges.run(DigEdges.class);
        edges.run(DayEdges.class);
        edges.run(TextEdges.class);
        edges.run(SheetEdges.class);
        edges.run(RowEdges.class);
        edges.coverAll();
        edges.end();
    }
}
