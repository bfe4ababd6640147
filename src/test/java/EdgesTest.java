/** Every sentence of the document that names a bound, each with a test of its own. */
public final class EdgesTest {
    public static void main(String[] args) {
        RoadEdges.all();
        TextEdges.all();
        RideEdges.all();
        GameEdges.all();
        HostEdges.all();
        Document.compare(Sentence.quoted());
        Due.end();
    }
}
