/** Each sentence of the document that names a boundary, promise by promise, with a test of its own. */
final class BoundariesTest {
  public static void main(String[] args) throws Exception {
    Sentences sentences = new Sentences(args.length > 0 ? args[0] : "");
    SheetBoundaries.test(sentences);
    PartBoundaries.test(sentences);
    RemnantBoundaries.test(sentences);
    TextBoundaries.test(sentences);
    UndoBoundaries.test(sentences);
    sentences.end();
  }
}
