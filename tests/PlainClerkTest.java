import java.util.Random;

/** Holds Treeclerk against PlainClerk in many runs of calls, the same ones every time. */
public final class PlainClerkTest {
  private static final int RUNS = 800;
  // What later calls answer is free, so no run has more of them.
  private static final int CALLS = 512;
  private static final String[] QUESTIONS = {
    "strength", "parentOf", "childrenOf", "claims", "isAlive", "isClosed", "shareAbove",
    "shareBelow", "shareAboveByWays", "heirs", "disputes", "reopenings", "owner", "ownerAnew",
    "area", "parcelAt", "today", "people", "openDoubts", "parcels"
  };

  private final Random random;
  private final Treeclerk clerk = new Treeclerk();
  private final PlainClerk plain = new PlainClerk();
  private final StringBuilder story = new StringBuilder();
  private int calls = 0;
  // How likely odd arguments are, and how fast people die, differ from run to run.
  private final int oddity;
  private final int mortality;

  private PlainClerkTest(int run) {
    random = new Random(run);
    oddity = run % 4 == 0 ? 8 : 60;
    mortality = 2 + run % 7;
  }

  public static void main(String[] args) {
    for (int run = 0; run < RUNS; run++) {
      new PlainClerkTest(run).play(run);
    }
    Check.finish();
  }

  private void play(int run) {
    int start = random.nextInt(4) + 1;
    for (int i = 0; i < start; i++) {
      compare(run, "pass", 100, 0, 0, 0);
    }
    int people = 4 + random.nextInt(11);
    for (int i = 0; i < people; i++) {
      compare(run, "birth", random.nextInt(plain.today() + 1), 0, 0, 0);
    }
    while (calls < CALLS - 20) {
      change(run);
      if (random.nextInt(3) == 0) {
        ask(run, QUESTIONS[random.nextInt(QUESTIONS.length)]);
        ask(run, random.nextBoolean() ? "owner" : "ownerAnew");
      }
    }
    while (calls < CALLS) {
      ask(run, QUESTIONS[calls % QUESTIONS.length]);
    }
  }

  private void change(int run) {
    int kind = random.nextInt(40 + mortality);
    if (kind < 2) {
      compare(run, "pass", odd(random.nextInt(20) + 1, 101), 0, 0, 0);
    } else if (kind < 3) {
      compare(run, "birth", odd(random.nextInt(plain.today() + 1), plain.today() + 1), 0, 0, 0);
    } else if (kind < 12) {
      compare(run, "proof", person(), person(), odd(random.nextInt(9) + 1, 10), 0);
    } else if (kind < 15) {
      compare(run, "doubt", random.nextInt(31), odd(random.nextInt(9) + 1, 10), 0, 0);
    } else if (kind < 18) {
      compare(run, "judge", odd(random.nextInt(20), 30), random.nextInt(2), 0, 0);
    } else if (kind < 20) {
      compare(run, "will", person(), person(), odd(random.nextInt(10), 10), 0);
    } else if (kind < 24) {
      compare(run, "claim", person(), person(), 0, 0);
    } else if (kind < 30) {
      int from = odd(random.nextInt(60), 60);
      compare(run, "grant", person(), from, odd(from + 1 + random.nextInt(12), 61), 0);
    } else if (kind < 35) {
      int from = odd(random.nextInt(60), 60);
      compare(run, "hand", person(), person(), from, odd(from + 1 + random.nextInt(30), 61));
    } else if (kind < 40) {
      compare(run, "close", person(), 0, 0, 0);
    } else if (random.nextInt(6) == 0) {
      compare(run, "death", person(), 0, 0, 0);
    }
  }

  private void ask(int run, String question) {
    switch (question) {
      case "strength" -> compare(run, question, odd(random.nextInt(30), 30), 0, 0, 0);
      case "parentOf" -> compare(run, question, person(), odd(random.nextInt(2), 2), 0, 0);
      case "owner", "ownerAnew", "parcelAt" ->
          compare(run, question, odd(random.nextInt(60), 60), 0, 0, 0);
      default -> compare(run, question, person(), person(), 0, 0);
    }
  }

  private int person() {
    int people = Math.max(1, plain.people());
    return odd(random.nextInt(people), people);
  }

  private int odd(int usual, int above) {
    if (random.nextInt(oddity) > 0) {
      return usual;
    }
    return switch (random.nextInt(5)) {
      case 0 -> -1;
      case 1 -> above;
      case 2 -> Integer.MAX_VALUE;
      case 3 -> Integer.MIN_VALUE;
      default -> 0;
    };
  }

  private void compare(int run, String call, int a, int b, int c, int d) {
    calls++;
    String got = Calls.outcome(clerk, call, a, b, c, d);
    String want = Calls.outcome(plain, call, a, b, c, d);
    story.append(call).append('(').append(a).append(", ").append(b).append(", ").append(c)
        .append(", ").append(d).append(") ").append(want).append('\n');
    Check.due("run " + run + ": " + call + " as PlainClerk's " + want + " and not " + got,
        got.equals(want), true);
    if (!got.equals(want)) {
      System.out.println(story);
      Check.finish();
    }
  }
}
