import java.io.IOException;
import java.nio.file.Path;

/**
 * Each sentence of the document that names a boundary case has a test of its own here, under its own words. A clause of
 * the Terms or of a promise that no test quotes makes this test fail.
 */
public final class EdgesTest {
  public static void main(String[] args) throws IOException {
    Doc doc = new Doc(Path.of("../shared/DOC.md"));
    Edges edges = new Edges(doc);
    TermsEdges.all(edges);
    LettersEdges.all(edges);
    WordsEdges.all(edges);
    PressingEdges.all(edges);
    PressesEdges.all(edges);
    Check.due("what it is, the Terms and 36 promises were read", doc.size(), 38);
    for (String clause : doc.unquoted()) {
      Check.due("tests of: " + clause, 0, 1);
    }
    System.out.println(edges.size() + " sentences");
    Check.finish();
  }
}
