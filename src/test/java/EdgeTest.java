import java.io.IOException;

/** Each sentence of the document, with its edges. */
final class EdgeTest {
    private EdgeTest() {
    }

    public static void main(String[] args) throws IOException {
        Edges edges = new Edges();
        FaceEdges.tell(edges);
        TermsEdges.tell(edges);
        DayEdges.tell(edges);
        WouldBeEdges.tell(edges);
        ShopCallEdges.tell(edges);
        DayCallEdges.tell(edges);
        RestCallEdges.tell(edges);
        edges.close("EdgeTest");
    }
}
