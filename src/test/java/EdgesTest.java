/**
 * Each passage of the document that names a boundary has a test of its own here, which quotes it. What no test
 * quotes is told at the end, and is a fault.
 */
public final class EdgesTest {
    public static void main(String[] args) {
        Check c = new Check();
        TermEdges.run(c);
        HourEdges.run(c);
        TextEdges.run(c);
        ReadingEdges.run(c);
        ActionEdges.run(c);
        UndoEdges.run(c);
        ForecastEdges.run(c);
        ScriptEdges.run(c);
        SimulateEdges.run(c);
        RefusedEdges.run(c);
        c.allIsSaid();
        c.end("EdgesTest");
    }
}
