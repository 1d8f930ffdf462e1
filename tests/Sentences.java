import java.util.List;

/**
 * Holds the program against each sentence of the document: they are quoted in the document's order,
 * each with the cases that would fail if it did not hold. A sentence that is left out, or that is
 * quoted wrongly, fails, too.
 */
final class Sentences {
  private static final List<Document.Sentence> DOCUMENT = Document.sentences();
  private static String heading = "";
  private static int said = 0;

  private Sentences() {}

  static void below(String newHeading) {
    heading = newHeading;
  }

  /** A promise begins with its declaration. */
  static void promise(String newHeading) {
    heading = newHeading;
    String declaration = following();
    shows(declaration, Face.has(declaration));
  }

  /** Each case is rows of calls on a new object, with the answers that the sentence asks for. */
  static void says(String sentence, String... cases) {
    String name = quoted(sentence);
    Check.due(name + ": has cases", cases.length > 0, true);
    for (int i = 0; i < cases.length; i++) {
      Edges.play(name + ", case " + (i + 1), cases[i]);
    }
  }

  /** A sentence about what can be seen without a call. */
  static void shows(String sentence, boolean holds) {
    Check.due(quoted(sentence), holds, true);
  }

  /** A sentence that promises nothing. */
  static void isFree(String sentence) {
    quoted(sentence);
  }

  /** The next sentence of the document; nothing behind the last one. */
  static String following() {
    return said < DOCUMENT.size() ? DOCUMENT.get(said).text() : "";
  }

  static void finish() {
    Check.due("sentences of the document", said, DOCUMENT.size());
    Edges.finish();
  }

  private static String quoted(String sentence) {
    String due = said < DOCUMENT.size() ? DOCUMENT.get(said).toString() : "nothing more";
    Check.same("sentence " + said, new Document.Sentence(heading, sentence).toString(), due);
    String name = "sentence " + said + " (" + heading + ": " + sentence + ")";
    said++;
    return name;
  }
}
