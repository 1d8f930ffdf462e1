import java.io.IOException;
import java.io.UncheckedIOException;
import java.nio.file.Files;
import java.nio.file.Path;
import java.util.ArrayList;
import java.util.List;
import java.util.regex.Matcher;
import java.util.regex.Pattern;

/** The text of the program, for what can't be seen by calls. */
final class Source {
  static final Path FILE = Path.of("src/main/java/Treeclerk.java");

  private static final Pattern HEADING = Pattern.compile("  // (---- .*)");
  private static final Pattern CALL = Pattern.compile("  public \\w+ (\\w+)\\(.*");
  private static final Pattern QUOTED = Pattern.compile("`(\\w+)`");

  private Source() {}

  static List<String> lines() {
    try {
      return Files.readAllLines(FILE);
    } catch (IOException e) {
      throw new UncheckedIOException(e);
    }
  }

  /** "Ahead of the calls `a`, `b` the interface says: ---- c.": just those stand below that line. */
  static boolean says(String sentence) {
    String said = sentence.substring(sentence.indexOf("----"), sentence.length() - 1);
    List<String> due = new ArrayList<>();
    Matcher quoted = QUOTED.matcher(sentence);
    while (quoted.find()) {
      due.add(quoted.group(1));
    }
    List<String> found = new ArrayList<>();
    String heading = "";
    for (String line : lines()) {
      Matcher head = HEADING.matcher(line);
      Matcher call = CALL.matcher(line);
      if (head.matches()) {
        heading = head.group(1);
      } else if (call.matches() && heading.equals(said)) {
        found.add(call.group(1));
      }
    }
    return found.equals(due);
  }
}
