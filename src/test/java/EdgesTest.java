import java.io.IOException;

/** Every sentence of the document that names an edge, each with a test of its own, by promises. */
public final class EdgesTest {
    public static void main(String[] args) throws IOException {
        TextEdges.all();
        LawEdges.all();
        LifeEdges.all();
        DeedEdges.all();
        CourseEdges.all();
        ChanceEdges.all();
        TalentEdges.all();
        RunEdges.all();
        TrayEdges.all();
        OwnEdges.all();
        Edge.nothingUnasked();
        System.out.println(Edge.WORDS.size() + " sentences were tested");
        Document.check();
        Due.end();
    }
}
