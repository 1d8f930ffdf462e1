/**
 * Every number of a person, a proof, a doubt or a unit in every call: just below 0, the last one
 * there is, the one behind it, and the ends of int; with nobody there, with some, and with all that
 * there can be.
 */
public final class NumbersEdgesTest {
  /** The promise, and the call with the number in question as N and other people as A and B. */
  private static final String[] OF_PERSONS = {
    "5 death N", "7 isAlive N", "8 proof N A 5", "8 proof A N 5", "13 parentOf N 0",
    "13 parentOf N 1", "14 childrenOf N", "15 will N A 3", "15 will A N 3", "16 claim N B",
    "16 claim A N", "17 claims N", "18 close N", "19 isClosed N", "20 shareAbove N B",
    "20 shareAbove A N", "21 shareBelow N B", "21 shareBelow A N", "22 shareAboveByWays N B",
    "22 shareAboveByWays A N", "23 heirs N", "24 disputes N", "25 reopenings N",
    "26 grant N 0 60", "27 hand N A 0 60", "27 hand A N 0 60", "30 area N"
  };
  private static final String[] OF_UNITS = {"28 owner N", "29 ownerAnew N", "32 parcelAt N"};

  public static void main(String[] args) {
    for (String call : OF_PERSONS) {
      nobody(call);
      persons(call, 3);
      persons(call, 14);
    }
    for (String call : new String[] {"9 doubt N 1", "11 strength N"}) {
      proofs(call, 0);
      proofs(call, 2);
      proofs(call, 30);
    }
    for (String call : new String[] {"10 judge N true", "10 judge N false"}) {
      doubts(call, 0);
      doubts(call, 2);
      doubts(call, 30);
    }
    for (String call : OF_UNITS) {
      units(call, "no land is granted", "");
      units(call, "all land is granted", "birth 0; grant 0 0 60\n");
    }
    theLastPersonIsAllowed();
    theLastUnitsAreAllowed();
    Check.due("cases", OF_PERSONS.length, 27);
    Edges.finish(13, 30);
  }

  private static String filled(String call, int number, int other, int dead) {
    return call.substring(call.indexOf(' ') + 1).replaceAll("\\bN\\b", Integer.toString(number))
        .replaceAll("\\bA\\b", Integer.toString(other))
        .replaceAll("\\bB\\b", Integer.toString(dead));
  }

  /** The number is refused, in a case that is named after the call. */
  private static void refused(String call, String when, String rows, int number, int other,
      int dead) {
    Edges.edge(call + ": N is " + number + ", " + when,
        rows + filled(call, number, other, dead) + " ! index");
  }

  private static void nobody(String call) {
    for (int number : new int[] {-1, 0, 1, 13, 14, Integer.MIN_VALUE, Integer.MAX_VALUE}) {
      refused(call, "nobody is there", "pass 100\n", number, 0, 0);
    }
  }

  /** The person 1 is alive, the person 0 dead and its heir by a proof. */
  private static void persons(String call, int people) {
    String rows = Edges.people(people) + "grant 1 0 60; proof 0 1 5; death 0\n";
    for (int number : new int[] {-1, people, people + 1, Integer.MIN_VALUE, Integer.MAX_VALUE}) {
      refused(call, people + " people are there", rows, number, 1, 0);
    }
  }

  private static void proofs(String call, int proofs) {
    String rows = Edges.people(2) + Edges.times(proofs, "proof 0 1 5");
    for (int number : new int[] {-1, proofs, proofs + 1, Integer.MIN_VALUE, Integer.MAX_VALUE}) {
      refused(call, proofs + " proofs are there", rows, number, 0, 0);
    }
    if (proofs > 0) {
      Edges.edge(call + ": N is the last of " + proofs + " proofs",
          rows + filled(call, proofs - 1, 0, 0));
    }
  }

  private static void doubts(String call, int doubts) {
    String rows = Edges.people(2) + "proof 0 1 9\n" + Edges.times(doubts, "doubt 0 1");
    for (int number : new int[] {-1, doubts, doubts + 1, Integer.MIN_VALUE, Integer.MAX_VALUE}) {
      refused(call, doubts + " doubts are there", rows, number, 0, 0);
    }
    if (doubts > 0) {
      Edges.edge(call + ": N is the last of " + doubts + " doubts",
          rows + filled(call, doubts - 1, 0, 0) + " = 0");
    }
  }

  private static void units(String call, String when, String rows) {
    for (int number : new int[] {-1, 60, 61, Integer.MIN_VALUE, Integer.MAX_VALUE}) {
      refused(call, when, rows, number, 0, 0);
    }
  }

  /** Each call once with the last person, of a few and of 14; the others are 0 and 1. */
  private static void theLastPersonIsAllowed() {
    for (int people : new int[] {3, 14}) {
      int last = people - 1;
      String alive = Edges.people(people) + "grant 1 0 30; grant " + last + " 30 60; death 0\n";
      for (String call : new String[] {"5 death N", "7 isAlive N", "8 proof A N 5",
          "13 parentOf N 0", "13 parentOf N 1", "14 childrenOf N", "15 will N A 3", "15 will A N 3",
          "16 claim N B", "17 claims N", "19 isClosed N", "20 shareAbove N B",
          "21 shareBelow N B", "22 shareAboveByWays N B", "25 reopenings N", "27 hand N A 0 60",
          "27 hand A N 0 60", "30 area N"}) {
        Edges.edge(call + ": N is the last of " + people, alive + filled(call, last, 1, 0));
      }
      String dead = alive + "death " + last + "\n";
      for (String call : new String[] {"16 claim A N", "18 close N", "20 shareAbove A N",
          "21 shareBelow A N", "22 shareAboveByWays A N", "23 heirs N", "24 disputes N"}) {
        Edges.edge(call + ": N is the last of " + people, dead + filled(call, last, 1, 0));
      }
      Edges.edge("26 grant: to the last of " + people,
          Edges.people(people) + "grant " + last + " 0 60 = 60; area " + last + " = 60");
    }
    Edges.edge("8 proof: the last of 14 is the parent",
        "pass 9\n" + Edges.times(13, "birth 5") + "birth 0; proof 13 0 5 = 0; childrenOf 13 = 1");
  }

  private static void theLastUnitsAreAllowed() {
    String land = "birth 0; birth 0; grant 0 0 1; grant 1 59 60\n";
    Edges.edge("28 owner: the first and the last unit", land + "owner 0 = 0; owner 59 = 1");
    Edges.edge("29 ownerAnew: the first and the last unit",
        land + "ownerAnew 0 = 0; ownerAnew 59 = 1");
    Edges.edge("32 parcelAt: the first and the last unit",
        land + "parcelAt 0 = 1; parcelAt 59 = 5901");
  }
}
