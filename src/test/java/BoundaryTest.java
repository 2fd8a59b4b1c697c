/** For each sentence of the document that names a boundary case, a test of its own. */
public final class BoundaryTest {
  public static void main(String[] args) {
    Sentences s = new Sentences();
    new TextBoundaries(s).run();
    new BookBoundaries(s).run();
    new WebBoundaries(s).run();
    new HoldBoundaries(s).run();
    new ReadBoundaries(s).run();
    new WorthBoundaries(s).run();
    new SlotBoundaries(s).run();
    if (!s.finish()) System.exit(1);
  }
}
