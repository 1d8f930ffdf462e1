/** Calls by their names and numbers, and what comes of them as a text. */
final class Calls {
  private Calls() {}

  /** The answer, a boolean as 1 or 0; or the very class of the exception, without its package. */
  static String outcome(Treeclerk clerk, String call, int... numbers) {
    int[] n = java.util.Arrays.copyOf(numbers, 4);
    return outcome(() -> ofClerk(clerk, call, n[0], n[1], n[2], n[3]));
  }

  static String outcome(PlainClerk plain, String call, int... numbers) {
    int[] n = java.util.Arrays.copyOf(numbers, 4);
    return outcome(() -> ofPlain(plain, call, n[0], n[1], n[2], n[3]));
  }

  private static String outcome(Check.Call call) {
    try {
      return Long.toString(call.answer());
    } catch (RuntimeException e) {
      return e.getClass().getSimpleName();
    }
  }

  private static long ofClerk(Treeclerk clerk, String call, int a, int b, int c, int d) {
    return switch (call) {
      case "pass" -> clerk.pass(a);
      case "today" -> clerk.today();
      case "birth" -> clerk.birth(a);
      case "death" -> clerk.death(a);
      case "people" -> clerk.people();
      case "isAlive" -> clerk.isAlive(a) ? 1 : 0;
      case "proof" -> clerk.proof(a, b, c);
      case "doubt" -> clerk.doubt(a, b);
      case "judge" -> clerk.judge(a, b == 1);
      case "strength" -> clerk.strength(a);
      case "openDoubts" -> clerk.openDoubts();
      case "parentOf" -> clerk.parentOf(a, b);
      case "childrenOf" -> clerk.childrenOf(a);
      case "will" -> clerk.will(a, b, c);
      case "claim" -> clerk.claim(a, b);
      case "claims" -> clerk.claims(a);
      case "close" -> clerk.close(a);
      case "isClosed" -> clerk.isClosed(a) ? 1 : 0;
      case "shareAbove" -> clerk.shareAbove(a, b);
      case "shareBelow" -> clerk.shareBelow(a, b);
      case "shareAboveByWays" -> clerk.shareAboveByWays(a, b);
      case "heirs" -> clerk.heirs(a);
      case "disputes" -> clerk.disputes(a);
      case "reopenings" -> clerk.reopenings(a);
      case "grant" -> clerk.grant(a, b, c);
      case "hand" -> clerk.hand(a, b, c, d);
      case "owner" -> clerk.owner(a);
      case "ownerAnew" -> clerk.ownerAnew(a);
      case "area" -> clerk.area(a);
      case "parcels" -> clerk.parcels();
      case "parcelAt" -> clerk.parcelAt(a);
      default -> throw new AssertionError(call);
    };
  }

  private static long ofPlain(PlainClerk plain, String call, int a, int b, int c, int d) {
    return switch (call) {
      case "pass" -> plain.pass(a);
      case "today" -> plain.today();
      case "birth" -> plain.birth(a);
      case "death" -> plain.death(a);
      case "people" -> plain.people();
      case "isAlive" -> plain.isAlive(a) ? 1 : 0;
      case "proof" -> plain.proof(a, b, c);
      case "doubt" -> plain.doubt(a, b);
      case "judge" -> plain.judge(a, b == 1);
      case "strength" -> plain.strength(a);
      case "openDoubts" -> plain.openDoubts();
      case "parentOf" -> plain.parentOf(a, b);
      case "childrenOf" -> plain.childrenOf(a);
      case "will" -> plain.will(a, b, c);
      case "claim" -> plain.claim(a, b);
      case "claims" -> plain.claims(a);
      case "close" -> plain.close(a);
      case "isClosed" -> plain.isClosed(a) ? 1 : 0;
      case "shareAbove", "shareAboveByWays" -> plain.shareAbove(a, b);
      case "shareBelow" -> plain.shareBelow(a, b);
      case "heirs" -> plain.heirs(a);
      case "disputes" -> plain.disputes(a);
      case "reopenings" -> plain.reopenings(a);
      case "grant" -> plain.grant(a, b, c);
      case "hand" -> plain.hand(a, b, c, d);
      case "owner", "ownerAnew" -> plain.owner(a);
      case "area" -> plain.area(a);
      case "parcels" -> plain.parcels();
      case "parcelAt" -> plain.parcelAt(a);
      default -> throw new AssertionError(call);
    };
  }
}
