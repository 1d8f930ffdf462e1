/** What the tests share: a count of wrong answers, and calls that are due to throw. */
final class Check {
  interface Call {
    long answer();
  }

  static final Class<IndexOutOfBoundsException> INDEX = IndexOutOfBoundsException.class;
  static final Class<IllegalArgumentException> ARGUMENT = IllegalArgumentException.class;
  static final Class<IllegalStateException> STATE = IllegalStateException.class;

  private static int checks = 0;
  private static int wrong = 0;

  private Check() {}

  static void due(String what, long got, long want) {
    checks++;
    if (got != want) {
      wrong++;
      System.out.println(what + " answered " + got + ", due is " + want);
    }
  }

  static void due(String what, boolean got, boolean want) {
    due(what, got ? 1 : 0, want ? 1 : 0);
  }

  static void same(String what, String got, String want) {
    checks++;
    if (!got.equals(want)) {
      wrong++;
      System.out.println(what + " answered " + got + ", due is " + want);
    }
  }

  static void share(String what, Treeclerk clerk, int person, int dead, long above, long below) {
    due(what + ", above", clerk.shareAbove(person, dead), above);
    due(what + ", below", clerk.shareBelow(person, dead), below);
    due(what + ", above by ways", clerk.shareAboveByWays(person, dead), above);
  }

  /** The row of owners from a unit on, each as it is kept and as it is found anew. */
  static void owners(String what, Treeclerk clerk, int from, int... want) {
    for (int i = 0; i < want.length; i++) {
      due(what + ", owner of " + (from + i), clerk.owner(from + i), want[i]);
      due(what + ", owner anew of " + (from + i), clerk.ownerAnew(from + i), want[i]);
    }
  }

  /**
   * A call that throws. The very class is due, not one below it: the machine's own exceptions are
   * below IndexOutOfBoundsException. That it changes nothing is held by Edges, for each reason: here
   * all that an object can be asked would be more calls than it is made for.
   */
  static void thrown(String what, Class<? extends RuntimeException> want, Call call) {
    checks++;
    try {
      long got = call.answer();
      wrong++;
      System.out.println(what + " answered " + got + ", due is " + want.getSimpleName());
    } catch (RuntimeException e) {
      if (e.getClass() != want) {
        wrong++;
        System.out.println(what + " threw " + e + ", due is " + want.getSimpleName());
      }
    }
  }

  /** Ends the run of a test class. */
  static void finish() {
    System.out.println(checks + " checks, " + wrong + " wrong");
    if (wrong != 0 || checks == 0) {
      System.exit(1);
    }
  }
}
