/** Each sentence of the document has a test of its own here, which quotes it. */
public final class SentencesTest extends Bench {
  public static void main(String[] args) {
    TermSentences.run();
    RefusalSentences.run();
    NetSentences.run();
    SheetSentences.run();
    FlowSentences.run();
    PolynomialSentences.run();
    EvenSentences.run();
    FaceSentences.run();
    SlotSentences.run();
    end();
  }
}
