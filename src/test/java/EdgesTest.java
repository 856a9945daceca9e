import java.util.List;

/** All promises: each sentence of the document that names a boundary case holds, and none was passed over. */
public final class EdgesTest {
    public static void main(String[] args) {
        Edges edges = Edges.ofAll();
        for (String one : edges.broken()) {
            System.out.println("does not hold: " + one);
        }
        System.out.println(edges.names().size() + " sentences with a test of their own");
        Check.is("sentences that do not hold", edges.broken().size(), 0);
        Check.end();
    }

    /** For Mutants: what does not hold. */
    static List<String> broken() {
        return Edges.ofAll().broken();
    }
}
