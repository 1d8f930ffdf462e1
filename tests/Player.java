/** Plays calls on a new object, notes what comes of each, and counts them. */
final class Player {
  /** An object is used for at most so many calls. */
  static final int MOST_CALLS = 512;

  private final Treeclerk clerk = new Treeclerk();
  private final StringBuilder story = new StringBuilder();
  private int calls = 0;

  String play(String call, int... numbers) {
    calls++;
    String outcome = Calls.outcome(clerk, call, numbers);
    story.append(call);
    for (int number : numbers) {
      story.append(' ').append(number);
    }
    story.append(": ").append(outcome).append('\n');
    return outcome;
  }

  /** The answer as a number; -2 if the call threw. */
  int ask(String call, int... numbers) {
    String outcome = play(call, numbers);
    return outcome.endsWith("Exception") ? -2 : Integer.parseInt(outcome);
  }

  void forgetStory() {
    story.setLength(0);
  }

  String story() {
    return story.toString();
  }

  int calls() {
    return calls;
  }
}
