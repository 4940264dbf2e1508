import java.io.IOException;

/** Each sentence of the document that names a boundary case, with a test of its own. */
public final class EdgesTest {
    public static void main(String[] args) throws IOException {
        Sentences.read();
        HallEdges.run();
        OrderEdges.run();
        BatchEdges.run();
        RouteEdges.run();
        ScheduleEdges.run();
        PickingEdges.run();
        SetupEdges.run();
        SavedEdges.run();
        Sentences.end();
        Check.end("EdgesTest");
    }
}
