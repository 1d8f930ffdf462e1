import java.util.ArrayList;
import java.util.Arrays;
import java.util.List;

/**
 * One call of a case, and what is due. Rows are read from a text: "pass 100 = 100" is due to answer
 * 100, "pass 101 ! argument" to throw, and "pass 1" to answer whatever PlainClerk does. Rows stand
 * on lines of their own or behind a semicolon; MIN and MAX are the ends of int.
 */
final class Row {
  final String call;
  final int[] numbers;
  /** Null if PlainClerk alone tells what is due. */
  final String due;
  final boolean isRefused;

  private Row(String call, int[] numbers, String due, boolean isRefused) {
    this.call = call;
    this.numbers = numbers;
    this.due = due;
    this.isRefused = isRefused;
  }

  static List<Row> read(String text) {
    List<Row> rows = new ArrayList<>();
    for (String line : text.split("[;\n]")) {
      if (!line.isBlank()) {
        rows.add(readOne(line.trim()));
      }
    }
    return rows;
  }

  private static Row readOne(String line) {
    boolean isRefused = line.contains(" ! ");
    String[] sides = line.split(" [=!] ");
    String[] words = sides[0].split(" ");
    int[] numbers = Arrays.stream(words).skip(1).mapToInt(Row::number).toArray();
    String due = null;
    if (isRefused) {
      due = exception(sides[1]);
    } else if (sides.length > 1) {
      due = Integer.toString(number(sides[1]));
    }
    return new Row(words[0], numbers, due, isRefused);
  }

  private static int number(String word) {
    return switch (word) {
      case "MIN" -> Integer.MIN_VALUE;
      case "MAX" -> Integer.MAX_VALUE;
      case "NONE" -> Treeclerk.NONE;
      case "true" -> 1;
      case "false" -> 0;
      default -> Integer.parseInt(word);
    };
  }

  private static String exception(String word) {
    return switch (word) {
      case "index" -> "IndexOutOfBoundsException";
      case "argument" -> "IllegalArgumentException";
      case "state" -> "IllegalStateException";
      case "element" -> "NoSuchElementException";
      default -> throw new AssertionError(word);
    };
  }

  @Override
  public String toString() {
    StringBuilder text = new StringBuilder(call);
    for (int number : numbers) {
      text.append(' ').append(number);
    }
    return text.toString();
  }
}
