import java.util.ArrayList;
import java.util.HashSet;
import java.util.List;
import java.util.Set;
import java.util.TreeSet;
import java.util.function.IntFunction;

/**
 * Runs cases at the edges of the document. A case has a name, which begins with the promise that it
 * is of, and rows of calls on a new object. Each answer is held against the one that the row names
 * and against PlainClerk's; and the rows are played once with and once without those that are due
 * to throw, and many later calls behind them have to answer the same.
 */
final class Edges {
  private static final Set<String> names = new HashSet<>();
  private static final Set<Integer> promises = new TreeSet<>();

  private Edges() {}

  static void edge(String name, String text) {
    promises.add(Integer.valueOf(name.substring(0, name.indexOf(' '))));
    play(name, text);
  }

  /** A case that is of no promise alone. */
  static void play(String name, String text) {
    Check.due(name + ": is a name of its own", names.add(name), true);
    List<Row> rows = Row.read(text);
    List<Row> kept = new ArrayList<>();
    Treeclerk clerk = new Treeclerk();
    PlainClerk plain = new PlainClerk();
    for (Row row : rows) {
      String got = Calls.outcome(clerk, row.call, row.numbers);
      String told = Calls.outcome(plain, row.call, row.numbers);
      Check.same(name + ": " + row, got, row.due == null ? told : row.due);
      Check.same(name + ": " + row + ", as PlainClerk tells", got, told);
      Check.due(name + ": " + row + " throws", got.endsWith("Exception"), row.isRefused);
      if (!row.isRefused) {
        kept.add(row);
      }
    }
    Check.due(name + ": has rows", !rows.isEmpty(), true);
    Check.due(name + ": has too many calls", rows.size() <= Player.MOST_CALLS, true);
    if (kept.size() < rows.size()) {
      nothingIsLeftOf(name, rows, kept);
    }
  }

  private static void nothingIsLeftOf(String name, List<Row> rows, List<Row> kept) {
    for (int kind = 0; kind < Later.KINDS; kind++) {
      Check.same(name + ": later calls, kind " + kind, later(name, rows, kind),
          later(name, kept, kind));
    }
  }

  private static String later(String name, List<Row> rows, int kind) {
    Player player = new Player();
    for (Row row : rows) {
      player.play(row.call, row.numbers);
    }
    player.forgetStory();
    Later.play(kind, player);
    Check.due(name + ": has too many later calls, kind " + kind,
        player.calls() <= Player.MOST_CALLS, true);
    return player.story();
  }

  /** The same rows several times. */
  static String times(int count, String rows) {
    return (rows + "\n").repeat(count);
  }

  /** Rows for each number from the first one to the one before the end. */
  static String each(int first, int end, IntFunction<String> rows) {
    StringBuilder text = new StringBuilder();
    for (int number = first; number < end; number++) {
      text.append(rows.apply(number)).append('\n');
    }
    return text.toString();
  }

  /** Today is the day 100; the person p is born on the day p. */
  static String people(int count) {
    return "pass 100\n" + each(0, count, p -> "birth " + p);
  }

  /** The share of a person in the estate of somebody, asked in every way. */
  static String share(int person, int dead, long above, long below) {
    String of = " " + person + " " + dead + " = ";
    return "shareAbove" + of + above + "\nshareBelow" + of + below + "\nshareAboveByWays" + of
        + above + "\n";
  }

  /** The row of owners from a unit on, as it is kept and as it is found anew. */
  static String owners(int from, int... owners) {
    return each(0, owners.length, i -> "owner " + (from + i) + " = " + owners[i]
        + "; ownerAnew " + (from + i) + " = " + owners[i]);
  }

  /** Ends the run of a test class that has cases of these promises. */
  static void finish(int firstPromise, int lastPromise) {
    for (int promise = firstPromise; promise <= lastPromise; promise++) {
      Check.due("promise " + promise + " has cases", promises.contains(promise), true);
    }
    finish();
  }

  static void finish() {
    System.out.println(names.size() + " cases");
    Check.finish();
  }
}
