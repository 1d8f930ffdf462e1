/** What the tests share: a count of wrong answers, and calls that are due to throw. */
final class Check {
  interface Call {
    long answer();
  }

  private static int checks = 0;
  private static int wrong = 0;

  private Check() {}

  static void due(String what, long got, long want) {
    checks++;
    if (got != want) {
      wrong++;
      System.out.println(what + " answered " + got + ", due is " + want);
    }
  }

  static void due(String what, boolean got, boolean want) {
    due(what, got ? 1 : 0, want ? 1 : 0);
  }

  /** The very class is due, not one below it, as a caller could tell them apart. */
  static void thrown(String what, Class<? extends RuntimeException> want, Call call) {
    checks++;
    try {
      long got = call.answer();
      wrong++;
      System.out.println(what + " answered " + got + ", due is " + want.getSimpleName());
    } catch (RuntimeException e) {
      if (e.getClass() != want) {
        wrong++;
        System.out.println(what + " threw " + e + ", due is " + want.getSimpleName());
      }
    }
  }

  /** Ends the run of a test class. */
  static void finish() {
    System.out.println(checks + " checks, " + wrong + " wrong");
    if (wrong != 0 || checks == 0) {
      System.exit(1);
    }
  }
}
