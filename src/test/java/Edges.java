/** Runs one test for some words of the document, which must stand there as they are quoted. */
final class Edges {
  private final Doc doc;
  private String heading = "";
  private int some = 0;

  Edges(Doc doc) {
    this.doc = doc;
  }

  /** The tests from here on are of this promise, or of the Terms. */
  void of(String newHeading) {
    heading = newHeading;
  }

  void test(String words, Runnable test) {
    some++;
    Check.about("[" + heading + "] " + words);
    Check.due("the document has these words", doc.quote(heading, words), true);
    test.run();
    Check.about("");
  }

  int size() {
    return some;
  }
}
