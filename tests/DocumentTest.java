/** Each sentence of the document, from its first line on, with cases that fail if it is broken. */
public final class DocumentTest {
  public static void main(String[] args) {
    TermsSentences.say();
    PromisesSentences.say();
    Sentences.finish();
  }
}
