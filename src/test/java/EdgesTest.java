import java.io.IOException;

/** Each sentence of the document, with the calls just inside and just outside of the boundaries that it names. */
public final class EdgesTest {
    private static void calls512() {
        Edge.of("What it is", "An object is used for at most 512 calls after it has been made");
        SlateRoof roof = new SlateRoof();
        for (int call = 1; call <= 510; call++) {
            Edge.same("call " + call, roof.cover(call % 2 == 1), call % 2 == 0 ? 1 : 0);
        }
        Edge.same("call 511", roof.undo(), 5);
        Edge.same("call 512", roof.count(10), 1);
    }

    public static void main(String[] args) throws IOException {
        Edge.readDocument();
        RoofEdges.all();
        SlateEdges.all();
        WorkEdges.all();
        TextEdges.all();
        ViewEdges.all();
        calls512();
        Edge.allAreNamed();
        Check.end("EdgesTest");
    }
}
