/** Each sentence of the document that names a boundary case, by a test of its own. */
public final class EdgesTest {
    public static void main(String[] args) {
        TapeEdges.all();
        BeachEdges.all();
        SeaEdges.all();
        PlanEdges.all();
        FaultEdges.all();
        HandEdges.all();
        WaveEdges.all();
        SlideEdges.all();
        SlotEdges.all();
        SandEdges.all();
        TrialEdges.all();
        ContestEdges.all();
        Edges.finish("EdgesTest");
    }
}
