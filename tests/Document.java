import java.io.IOException;
import java.io.UncheckedIOException;
import java.nio.file.Files;
import java.nio.file.Path;
import java.util.ArrayList;
import java.util.List;

/**
 * The sentences of the document in their order, each with the heading that it stands below. Each
 * line of the face is one, and what a promise begins with is two: the declaration, and what it does.
 */
final class Document {
  record Sentence(String heading, String text) {}

  private static final Path FILE = Path.of("../shared/DOC.md");
  private static final String PROMISE = "Promise ";

  private final List<Sentence> sentences = new ArrayList<>();
  private final StringBuilder paragraph = new StringBuilder();
  private String heading = "";
  private boolean isFace = false;

  private Document() {}

  static List<Sentence> sentences() {
    Document document = new Document();
    try {
      Files.readAllLines(FILE).forEach(document::read);
    } catch (IOException e) {
      throw new UncheckedIOException(e);
    }
    document.endParagraph();
    return document.sentences;
  }

  private void read(String line) {
    if (line.startsWith("```")) {
      isFace = !isFace;
    } else if (isFace) {
      add(line.trim());
    } else if (line.startsWith("#")) {
      endParagraph();
      heading = line.replaceFirst("#+ ", "");
    } else if (line.isBlank()) {
      endParagraph();
    } else {
      if (line.startsWith("- ")) {
        endParagraph();
      }
      paragraph.append(line.trim()).append(' ');
    }
  }

  private void endParagraph() {
    String text = paragraph.toString().trim();
    paragraph.setLength(0);
    int declared = text.indexOf("`: ");
    if (heading.startsWith(PROMISE) && text.startsWith("`") && declared > 0) {
      add(text.substring(1, declared));
      text = text.substring(declared + 3);
    }
    for (String sentence : text.split("(?<=\\.) (?=[A-Z])")) {
      if (!sentence.isBlank()) {
        add(sentence);
      }
    }
  }

  private void add(String text) {
    sentences.add(new Sentence(heading, text));
  }
}
