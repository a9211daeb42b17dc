/** Each sentence of the document that names an edge, quoted as it stands there, with a test of its own. */
public final class EdgesTest {
  public static void main(String[] args) {
    TermEdges.all();
    TextEdges.all();
    EarthEdges.all();
    BedEdges.all();
    DateEdges.all();
    Edge.allWereAsked();
    Due.end("EdgesTest");
  }
}
