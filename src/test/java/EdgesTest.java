/** Each sentence of the document, by a test of its own: what it names as too small, too large, empty, full or refused. */
public final class EdgesTest {
  private EdgesTest() {
  }

  public static void main(String[] args) {
    Check check = new Check("EdgesTest");
    Sentences sentences = new Sentences(check);
    TermsEdges.test(sentences);
    TextEdges.test(sentences);
    SummerEdges.test(sentences);
    LawEdges.test(sentences);
    ShapeEdges.test(sentences);
    PersonEdges.test(sentences);
    LineEdges.test(sentences);
    SuitEdges.test(sentences);
    sentences.judge();
    check.close();
  }
}
