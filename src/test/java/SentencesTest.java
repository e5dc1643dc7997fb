import java.io.IOException;

/** For each sentence of the document that names a boundary case, a test of its own. */
public final class SentencesTest {
    public static void main(String[] args) throws IOException {
        Sentences s = new Sentences();
        AreaEdges.run(s);
        PlanEdges.run(s);
        TextEdges.run(s);
        RefusalEdges.run(s);
        LinkPromises.run(s);
        PosePromises.run(s);
        SpacePromises.run(s);
        PathPromises.run(s);
        KeptPromises.run(s);
        s.end();
    }
}
