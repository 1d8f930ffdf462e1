/** The sentences of the promises, and of what is not promised. */
final class PromisesSentences {
  private static final String TWO = Edges.people(2);
  private static final String THREE = Edges.people(3);
  /** The person 0 is dead, and 1 is its heir. */
  private static final String DEAD = THREE + "proof 0 1 5; death 0\n";

  private PromisesSentences() {}

  static void say() {
    days();
    births();
    deaths();
    proof();
    doubt();
    judge();
    strengths();
    parentOf();
    childrenOf();
    will();
    claim();
    close();
    shareAbove();
    shareBelow();
    shareAboveByWays();
    heirs();
    disputes();
    reopenings();
    grant();
    hand();
    owners();
    parcels();
    notPromised();
  }

  /** The call with each number that is none of so many, as N. */
  private static String noneOf(int many, String call) {
    StringBuilder rows = new StringBuilder();
    for (String number : new String[] {"-1", "" + many, "" + (many + 1), "99", "MIN", "MAX"}) {
      rows.append(call.replace("N", number)).append(" ! index\n");
    }
    return rows.toString();
  }

  private static void days() {
    Sentences.promise("Promise 1: A new object");
    Sentences.says("Begins on the day 0, without people; all land belongs to nobody.",
        "today = 0; birth 1 ! argument; birth 0 = 0", "people = 0; isAlive 0 ! index",
        "parcels = 0\n" + Edges.each(0, 60, u -> "owner " + u + " = NONE"),
        Edges.each(0, 60, u -> "ownerAnew " + u + " = NONE"));
    Sentences.promise("Promise 2: pass");
    Sentences.says("Lets days pass.", "pass 7; today = 7; pass 30; today = 37");
    Sentences.says("- `days`: 1 to 100", "pass 1 = 1; pass 100 = 101; pass 50 = 151");
    Sentences.says("Returns today then.", "pass 5 = 5; pass 6 = 11");
    Sentences.says("Throws `IllegalArgumentException` if days is out of range",
        "pass 0 ! argument; pass -1 ! argument; pass 101 ! argument; today = 0",
        "pass MIN ! argument; pass MAX ! argument; today = 0");
    Sentences.says("Throws `IllegalStateException` if today would be above 2000",
        Edges.times(19, "pass 100") + "pass 99 = 1999; pass 2 ! state; pass 1 = 2000\n"
            + "pass 1 ! state; pass 100 ! state; today = 2000");
    Sentences.promise("Promise 3: today");
    Sentences.says("Returns today.", "today = 0; pass 12; today = 12; birth 3; today = 12");
  }

  private static void births() {
    Sentences.promise("Promise 4: birth");
    Sentences.says("Registers a birth, perhaps late.",
        "pass 10; birth 10; people = 1; isAlive 0 = true; birth 2; people = 2; proof 1 0 5 = 0");
    Sentences.says("- `day`: 0 to today: the day on which the person was born",
        "birth 0 = 0; pass 10; birth 0 = 1; birth 10 = 2; birth 9 = 3; proof 0 1 5 ! argument\n"
            + "proof 3 2 5 = 0; proof 2 3 5 ! argument; proof 1 3 5 = 1");
    Sentences.says("Returns the number of the person.",
        "pass 20; birth 9 = 0; birth 5 = 1; birth 7 = 2; death 1; birth 6 = 3");
    Sentences.says("Throws `IllegalArgumentException` if day is out of range",
        "birth 1 ! argument; birth -1 ! argument; pass 10; birth 11 ! argument\n"
            + "birth MIN ! argument; birth MAX ! argument; people = 0; birth 10 = 0");
    Sentences.says("Throws `IllegalStateException` if there are 14 people",
        Edges.times(13, "birth 0") + "birth 0 = 13; birth 0 ! state; death 3; birth 0 ! state\n"
            + "people = 14");
  }

  private static void deaths() {
    Sentences.promise("Promise 5: death");
    Sentences.says("Registers a death, today.",
        "birth 0; pass 50; death 0; isAlive 0 = false; pass 50; birth 50; birth 51\n"
            + "proof 0 1 5; proof 0 2 5\n" + Edges.share(1, 0, 1, 1) + Edges.share(2, 0, 0, 1),
        THREE + "death 1; isAlive 0 = true; isAlive 1 = false; isAlive 2 = true");
    Sentences.says("Returns how many claims are gone by that.",
        Edges.people(5) + "death 0 = 0; death 1 = 0; death 2 = 0; claim 3 0; claim 3 1; claim 3 2\n"
            + "claim 4 0; close 1; death 3 = 2; claims 0 = 1; claims 1 = 1; claims 2 = 0; death 4 = 1");
    Sentences.says("Throws `IndexOutOfBoundsException` as told",
        TWO + noneOf(2, "death N") + "isAlive 0 = true", noneOf(0, "death N"));
    Sentences.says("Throws `IllegalStateException` if the person is dead",
        TWO + "death 0; death 0 ! state; close 0; death 0 ! state; isAlive 1 = true");
    Sentences.promise("Promise 6: people");
    Sentences.says("Returns how many people there are, dead ones with them.",
        "people = 0; birth 0; people = 1; birth 0; people = 2; death 0; people = 2; close 0\n"
            + "people = 2");
    Sentences.promise("Promise 7: isAlive");
    Sentences.says("Returns whether a person is alive.",
        TWO + "isAlive 0 = true; isAlive 1 = true; death 1; isAlive 0 = true; isAlive 1 = false");
    Sentences.says("Throws `IndexOutOfBoundsException` as told",
        TWO + "death 1\n" + noneOf(2, "isAlive N"), noneOf(0, "isAlive N"));
  }

  private static void proof() {
    Sentences.promise("Promise 8: proof");
    Sentences.says("Files a proof.",
        THREE + "proof 0 2 5; parentOf 2 0 = 0; childrenOf 0 = 4; strength 0 = 5");
    Sentences.says("- `weight`: 1 to 9",
        TWO + Edges.each(1, 10, w -> "proof 0 1 " + w + " = " + (w - 1) + "; strength " + (w - 1)
            + " = " + w));
    Sentences.says("Returns its number.",
        THREE + "proof 0 1 5 = 0; proof 1 2 5 = 1; doubt 1 1; judge 0 true; proof 1 2 5 = 2\n"
            + "strength 2 = 5");
    Sentences.says("Throws `IndexOutOfBoundsException` as told, of parent or child",
        TWO + noneOf(2, "proof N 1 5") + "strength 0 ! index",
        TWO + noneOf(2, "proof 0 N 5") + "strength 0 ! index", noneOf(0, "proof N N 5"));
    Sentences.says("Throws `IllegalArgumentException` if weight is out of range, or the child was "
        + "not born on a later day than the parent",
        TWO + "proof 0 1 0 ! argument; proof 0 1 10 ! argument; proof 0 1 -1 ! argument\n"
            + "proof 0 1 MIN ! argument; proof 0 1 MAX ! argument; childrenOf 0 = 0",
        "pass 9; birth 5; birth 5; birth 4; proof 0 1 5 ! argument; proof 0 2 5 ! argument\n"
            + "proof 0 0 5 ! argument; proof 2 0 5 = 0");
    Sentences.says("Throws `IllegalStateException` if there are 30 proofs",
        THREE + Edges.times(29, "proof 0 1 5") + "proof 0 2 5 = 29; proof 1 2 5 ! state\n"
            + "doubt 0 1; judge 0 true; proof 1 2 5 ! state; childrenOf 1 = 0");
  }

  private static void doubt() {
    Sentences.promise("Promise 9: doubt");
    Sentences.says("Files a doubt.",
        TWO + "proof 0 1 5; doubt 0 3; openDoubts = 1; strength 0 = 2; judge 0 false = 0");
    Sentences.says("- `weight`: 1 to 9", TWO + Edges.each(1, 10, w -> "proof 0 1 9; doubt "
        + (w - 1) + " " + w + " = " + (w - 1) + "; strength " + (w - 1) + " = " + (9 - w)));
    Sentences.says("Returns its number.",
        TWO + "proof 0 1 5; doubt 0 1 = 0; doubt 0 1 = 1; judge 1 false; doubt 0 1 = 2");
    Sentences.says("Throws `IndexOutOfBoundsException` as told",
        TWO + "proof 0 1 5; proof 0 1 5\n" + noneOf(2, "doubt N 1") + "openDoubts = 0",
        TWO + noneOf(0, "doubt N 1"));
    Sentences.says("Throws `IllegalArgumentException` if weight is out of range",
        TWO + "proof 0 1 9; doubt 0 0 ! argument; doubt 0 10 ! argument; doubt 0 -1 ! argument\n"
            + "doubt 0 MIN ! argument; doubt 0 MAX ! argument; openDoubts = 0; strength 0 = 9");
    Sentences.says("Throws `IllegalStateException` if the proof has fallen, or there are 30 doubts",
        TWO + "proof 0 1 5; proof 0 1 5; doubt 0 1; judge 0 true; doubt 0 1 ! state; doubt 1 5 = 1\n"
            + "doubt 1 5 = 2; openDoubts = 2",
        TWO + "proof 0 1 9\n" + Edges.times(29, "doubt 0 9") + "doubt 0 1 = 29; doubt 0 1 ! state\n"
            + "judge 3 false; doubt 0 1 ! state; openDoubts = 29");
  }

  private static void judge() {
    Sentences.promise("Promise 10: judge");
    Sentences.says("Judges a doubt: it is not open any more; if it is upheld, the proof falls for "
        + "ever, and no doubt against it is open any more.",
        TWO + "proof 0 1 5; doubt 0 2; doubt 0 1; judge 0 false; openDoubts = 1; strength 0 = 4\n"
            + "judge 0 false ! state; judge 1 false = 0; childrenOf 0 = 2; strength 0 = 5",
        TWO + "proof 0 1 5; doubt 0 2; doubt 0 1; doubt 0 1; judge 1 true; openDoubts = 0\n"
            + "strength 0 = 0; childrenOf 0 = 0; judge 0 false ! state; judge 2 false ! state\n"
            + "proof 0 1 3; strength 0 = 0; doubt 0 1 ! state; pass 100; strength 0 = 0",
        THREE + "proof 0 1 5; proof 0 2 5; doubt 0 1; doubt 1 1; judge 0 true; openDoubts = 1\n"
            + "strength 1 = 4; childrenOf 0 = 4");
    String closed = Edges.people(4) + "grant 0 0 6; grant 3 6 7; proof 0 1 5; proof 0 2 5\n";
    Sentences.says("Returns how many units belong to another person, or to nobody, or not to nobody "
        + "any more, by that.",
        closed + "death 0; close 0; doubt 0 1; judge 0 true = 3\n"
            + Edges.owners(0, 2, 2, 2, 2, 2, 2, 3),
        closed + "doubt 1 5; death 0; close 0; doubt 0 1; judge 1 true = 6\n"
            + Edges.owners(0, -1, -1, -1, -1, -1, -1, 3) + "judge 0 false = 6\n"
            + Edges.owners(0, 2, 2, 2, 2, 2, 2, 3),
        closed + "death 0; close 0; hand 1 3 0 2; doubt 1 4; judge 0 false = 0; doubt 0 5\n"
            + Edges.owners(0, 2, 2, 2, 2, 2, 2, 3) + "judge 1 false = 3\n"
            + Edges.owners(0, 3, 3, 1, 2, 2, 2, 3),
        closed + "death 0; doubt 0 1; judge 0 true = 0; close 0");
    Sentences.says("Throws `IndexOutOfBoundsException` as told",
        TWO + "proof 0 1 5; doubt 0 1; doubt 0 1\n" + noneOf(2, "judge N true")
            + noneOf(2, "judge N false") + "openDoubts = 2",
        TWO + "proof 0 1 5\n" + noneOf(0, "judge N true"));
    Sentences.says("Throws `IllegalStateException` if the doubt is not open",
        TWO + "proof 0 1 9; doubt 0 1; doubt 0 2; doubt 0 3; judge 0 false; judge 0 true ! state\n"
            + "judge 0 false ! state; strength 0 = 4; judge 1 true; judge 1 true ! state\n"
            + "judge 2 false ! state; openDoubts = 0",
        THREE + "grant 0 0 2; proof 0 1 9; proof 0 1 8; death 0; close 0; doubt 0 1; doubt 1 1\n"
            + "judge 1 true; judge 1 true ! state; judge 1 false ! state; openDoubts = 1\n"
            + "strength 0 = 8; heirs 0 = 1\n" + Edges.owners(0, 1, 1));
  }

  private static void strengths() {
    Sentences.promise("Promise 11: strength");
    Sentences.says("Returns the strength of a proof.",
        TWO + "proof 0 1 5; proof 0 1 8; strength 0 = 5; strength 1 = 8; doubt 1 3; strength 1 = 5\n"
            + "strength 0 = 5; judge 0 true; strength 1 = 0");
    Sentences.says("Throws `IndexOutOfBoundsException` as told",
        TWO + "proof 0 1 5; proof 0 1 5\n" + noneOf(2, "strength N"), noneOf(0, "strength N"));
    Sentences.promise("Promise 12: openDoubts");
    Sentences.says("Returns how many doubts are open.",
        TWO + "openDoubts = 0; proof 0 1 2; doubt 0 5; openDoubts = 1; doubt 0 5; openDoubts = 2\n"
            + "doubt 0 5; judge 1 false; openDoubts = 2; judge 2 true; openDoubts = 0");
  }

  private static void parentOf() {
    Sentences.promise("Promise 13: parentOf");
    Sentences.says("Returns a parent of a person.",
        Edges.people(4) + "proof 0 3 5; proof 1 2 5; parentOf 3 0 = 0; parentOf 2 0 = 1");
    Sentences.says("- `place`: 0 for the first one, 1 for the second one",
        THREE + "proof 0 2 4; proof 1 2 5; parentOf 2 0 = 1; parentOf 2 1 = 0");
    Sentences.says("Returns the parent; NONE if there is none.",
        THREE + "parentOf 2 0 = NONE; parentOf 2 1 = NONE; proof 0 2 5; parentOf 2 0 = 0\n"
            + "parentOf 2 1 = NONE; doubt 0 5; parentOf 2 0 = NONE; parentOf 2 1 = NONE");
    Sentences.says("Throws `IndexOutOfBoundsException` as told",
        TWO + "proof 0 1 5\n" + noneOf(2, "parentOf N 0") + noneOf(2, "parentOf N 1"),
        noneOf(0, "parentOf N 0"));
    Sentences.says("Throws `IllegalArgumentException` if place is out of range",
        TWO + "proof 0 1 5; parentOf 1 -1 ! argument; parentOf 1 2 ! argument\n"
            + "parentOf 1 MIN ! argument; parentOf 1 MAX ! argument; parentOf 1 0 = 0");
  }

  private static void childrenOf() {
    Sentences.promise("Promise 14: childrenOf");
    Sentences.says("Returns the children of a person.",
        Edges.people(4) + "childrenOf 0 = 0; proof 0 1 5; proof 0 3 5; proof 1 3 5; proof 1 2 5\n"
            + "childrenOf 0 = 10; childrenOf 1 = 12; childrenOf 2 = 0");
    Sentences.says("Returns the set: bit p for the person p.",
        "pass 50; birth 20; birth 10\n" + Edges.times(12, "birth 30") + "proof 1 0 5\n"
            + "childrenOf 1 = 1; proof 1 13 5; childrenOf 1 = 8193; proof 1 5 5; childrenOf 1 = 8225");
    Sentences.says("Throws `IndexOutOfBoundsException` as told",
        TWO + "proof 0 1 5\n" + noneOf(2, "childrenOf N"), noneOf(0, "childrenOf N"));
  }

  private static void will() {
    Sentences.promise("Promise 15: will");
    Sentences.says("Sets the weight of a person in the will of another one.",
        THREE + "will 0 1 1; will 0 2 9; will 1 0 4; will 0 2 3; death 0\n"
            + Edges.share(1, 0, 1, 4) + Edges.share(2, 0, 3, 4));
    Sentences.says("- `weight`: 0 to 9",
        TWO + Edges.each(0, 10, w -> "will 0 1 " + (9 - w) + " = " + (w == 0 ? 0 : 10 - w)));
    Sentences.says("Returns the weight before.",
        THREE + "will 0 1 5 = 0; will 0 1 7 = 5; will 0 2 2 = 0; will 1 0 3 = 0; will 0 1 0 = 7\n"
            + "will 0 1 1 = 0");
    Sentences.says("Throws `IndexOutOfBoundsException` as told, of either",
        TWO + noneOf(2, "will N 1 5"), TWO + noneOf(2, "will 1 N 5"), noneOf(0, "will N N 5"));
    Sentences.says("Throws `IllegalArgumentException` if both are the same, or weight is out of "
        + "range",
        TWO + "will 0 0 5 ! argument; will 1 1 0 ! argument; will 0 1 -1 ! argument\n"
            + "will 0 1 10 ! argument; will 0 1 MIN ! argument; will 0 1 MAX ! argument\n"
            + "will 0 1 1 = 0");
    Sentences.says("Throws `IllegalStateException` if the person whose will it is is dead",
        THREE + "will 0 1 5; death 0; will 0 1 6 ! state; will 0 2 6 ! state; will 0 1 0 ! state\n"
            + "will 1 0 5 = 0\n" + Edges.share(1, 0, 1, 1) + Edges.share(2, 0, 0, 1));
  }

  private static void claim() {
    Sentences.promise("Promise 16: claim");
    Sentences.says("Files a claim to the estate of somebody.",
        Edges.people(4) + "grant 0 0 3; proof 0 1 5; proof 0 2 5; death 0; claim 2 0; claims 0 = 1\n"
            + "close 0\n" + Edges.owners(0, 2, 2, 1));
    Sentences.says("Returns how many claims to it there are then.",
        Edges.people(5) + "death 0; death 1; claim 2 0 = 1; claim 3 0 = 2; claim 2 1 = 1\n"
            + "death 2; claim 4 0 = 2; claim 4 1 = 1");
    Sentences.says("Throws `IndexOutOfBoundsException` as told, of either",
        DEAD + noneOf(3, "claim N 0") + "claims 0 = 0", DEAD + noneOf(3, "claim 1 N"),
        noneOf(0, "claim N N"));
    Sentences.says("Throws `IllegalStateException` if the person is dead, the other one is not, its "
        + "estate is closed, or the person has filed a claim to it",
        Edges.people(4) + "death 0; death 1; claim 1 0 ! state; claim 0 0 ! state; claims 0 = 0",
        Edges.people(4) + "claim 1 0 ! state; claim 1 1 ! state; claims 0 = 0; claims 1 = 0",
        Edges.people(4) + "death 0; claim 1 0; close 0; claim 2 0 ! state; claims 0 = 1",
        Edges.people(4) + "death 0; claim 1 0; claim 2 0; claim 1 0 ! state; claim 2 0 ! state\n"
            + "claims 0 = 2; claim 3 0 = 3");
    Sentences.promise("Promise 17: claims");
    Sentences.says("Returns how many claims to the estate of somebody there are, or were when it "
        + "was closed; 0 for the living.",
        Edges.people(4) + "claims 0 = 0; death 0; claims 0 = 0; claim 1 0; claim 2 0; claims 0 = 2\n"
            + "death 1; claims 0 = 1; close 0; claims 0 = 1; death 2; claims 0 = 1; claims 3 = 0");
    Sentences.says("Throws `IndexOutOfBoundsException` as told",
        DEAD + "claim 1 0\n" + noneOf(3, "claims N"), noneOf(0, "claims N"));
  }

  private static void close() {
    Sentences.promise("Promise 18: close");
    Sentences.says("Closes the estate of somebody.",
        DEAD + "isClosed 0 = false; close 0; isClosed 0 = true; claim 1 0 ! state; close 0 ! state",
        TWO + "grant 0 0 2; proof 0 1 5; death 0; close 0\n" + Edges.owners(0, 1, 1));
    Sentences.says("Returns how many heirs it has.",
        DEAD + "close 0 = 1", TWO + "death 0; close 0 = 0",
        Edges.people(4) + "proof 0 1 5; proof 0 2 5; will 0 3 1; death 0; close 0 = 3; heirs 0 = 3");
    Sentences.says("Throws `IndexOutOfBoundsException` as told",
        DEAD + noneOf(3, "close N"), noneOf(0, "close N"));
    Sentences.says("Throws `IllegalStateException` if the person is alive, or its estate is closed",
        DEAD + "close 1 ! state; isClosed 1 = false; close 0 = 1; close 0 ! state; death 1\n"
            + "close 0 ! state; close 1 = 0",
        Edges.people(4) + "grant 0 0 4; proof 0 1 5; death 0; close 0; hand 1 2 0 4; close 0 ! state\n"
            + Edges.owners(0, 2, 2, 2, 2) + "proof 0 3 5\n" + Edges.owners(0, 2, 2, 3, 3));
    Sentences.promise("Promise 19: isClosed");
    Sentences.says("Returns whether the estate of somebody is closed.",
        DEAD + "isClosed 0 = false; isClosed 1 = false; close 0; isClosed 0 = true\n"
            + "isClosed 1 = false; proof 0 2 5; reopenings 0 = 1; isClosed 0 = true");
    Sentences.says("Throws `IndexOutOfBoundsException` as told",
        DEAD + "close 0\n" + noneOf(3, "isClosed N"), noneOf(0, "isClosed N"));
  }

  /** Three generations, ways that meet, a will, and a person that is no heir. */
  private static final String MANY = Edges.people(9) + """
      proof 0 1 5; proof 0 2 5; proof 0 3 5; proof 1 4 5; proof 1 5 5; proof 2 5 5; proof 2 6 5
      proof 2 7 5; will 0 3 2; will 0 4 4; death 1; death 2; death 0
      """;

  private static void shareAbove() {
    Sentences.promise("Promise 20: shareAbove");
    Sentences.says("Returns the numerator of the share of a person in the estate of another one, in "
        + "lowest terms, found from the heads down; 0 for who is no heir.",
        MANY + "shareAbove 3 0 = 1; shareAbove 4 0 = 5; shareAbove 5 0 = 5; shareAbove 6 0 = 1\n"
            + "shareAbove 7 0 = 1; shareAbove 8 0 = 0; shareAbove 1 0 = 0; shareAbove 0 0 = 0",
        Edges.people(4) + "will 0 1 2; will 0 2 4; will 0 3 8; death 0; shareAbove 1 0 = 1\n"
            + "shareAbove 2 0 = 2; shareAbove 3 0 = 4");
    sharesThrow("shareAbove");
  }

  private static void shareBelow() {
    Sentences.promise("Promise 21: shareBelow");
    Sentences.says("Returns the denominator of this share; 1 for who is no heir.",
        MANY + "shareBelow 3 0 = 3; shareBelow 4 0 = 12; shareBelow 5 0 = 36; shareBelow 6 0 = 18\n"
            + "shareBelow 7 0 = 18; shareBelow 8 0 = 1; shareBelow 1 0 = 1; shareBelow 0 0 = 1",
        Edges.people(4) + "will 0 1 2; will 0 2 4; will 0 3 8; death 0; shareBelow 1 0 = 7\n"
            + "shareBelow 2 0 = 7; shareBelow 3 0 = 7",
        TWO + "proof 0 1 5; death 0; shareBelow 1 0 = 1");
    sharesThrow("shareBelow");
  }

  private static void shareAboveByWays() {
    Sentences.promise("Promise 22: shareAboveByWays");
    Sentences.says("Returns the same numerator, found from the person up: what comes to somebody is "
        + "what comes to it as a head, and from each of its parents who was not alive at the closing "
        + "a part of what comes to that.",
        MANY + "shareAboveByWays 3 0 = 1; shareAboveByWays 4 0 = 5; shareAboveByWays 5 0 = 5\n"
            + "shareAboveByWays 6 0 = 1; shareAboveByWays 7 0 = 1; shareAboveByWays 8 0 = 0\n"
            + "shareAboveByWays 1 0 = 0; shareAboveByWays 0 0 = 0",
        Edges.people(5) + "proof 0 1 5; proof 0 2 5; proof 1 2 5; proof 0 3 5; proof 1 4 5\n"
            + "death 0; death 2; shareAboveByWays 1 2 = 3; shareAboveByWays 3 2 = 1\n"
            + "shareAboveByWays 4 2 = 0; close 2; death 1; shareAboveByWays 1 2 = 3\n"
            + "shareAboveByWays 4 2 = 0");
    sharesThrow("shareAboveByWays");
  }

  private static void sharesThrow(String call) {
    Sentences.says("Throws `IndexOutOfBoundsException` as told, of either",
        DEAD + noneOf(3, call + " N 0"), DEAD + noneOf(3, call + " 1 N"), noneOf(0, call + " N N"),
        DEAD + "close 0\n" + noneOf(3, call + " N 0") + "shareAbove 1 0 = 1; heirs 0 = 1");
    Sentences.says("Throws `IllegalStateException` if the other one is alive",
        TWO + "will 1 0 5; " + call + " 0 1 ! state; " + call + " 1 1 ! state; death 0\n" + call
            + " 0 1 ! state; death 1; " + call + " 0 1; " + call + " 1 0");
  }

  private static void heirs() {
    Sentences.promise("Promise 23: heirs");
    Sentences.says("Returns how many heirs the estate of somebody has.",
        MANY + "heirs 0 = 5; heirs 1 = 2; heirs 2 = 3", TWO + "death 0; heirs 0 = 0",
        DEAD + "heirs 0 = 1; close 0; heirs 0 = 1; proof 0 2 5; heirs 0 = 2; death 1; heirs 0 = 2");
    Sentences.says("Throws `IndexOutOfBoundsException` as told",
        DEAD + noneOf(3, "heirs N"), noneOf(0, "heirs N"));
    Sentences.says("Throws `IllegalStateException` if it is alive",
        DEAD + "heirs 1 ! state; heirs 2 ! state; heirs 0 = 1");
  }

  private static void disputes() {
    Sentences.promise("Promise 24: disputes");
    Sentences.says("Returns for how many open doubts the shares of the estate of somebody would be "
        + "others if the doubt was upheld.",
        DEAD + "disputes 0 = 0; doubt 0 1; disputes 0 = 1; doubt 0 1; disputes 0 = 2\n"
            + "judge 0 false; disputes 0 = 1; close 0; disputes 0 = 1; doubt 0 5; disputes 0 = 0",
        DEAD + "proof 0 1 5; proof 1 2 5; doubt 0 1; doubt 1 1; doubt 2 1; disputes 0 = 0\n"
            + "judge 0 true; disputes 0 = 1; childrenOf 0 = 2; reopenings 0 = 0");
    Sentences.says("Throws `IndexOutOfBoundsException` as told",
        DEAD + "doubt 0 1\n" + noneOf(3, "disputes N"), noneOf(0, "disputes N"));
    Sentences.says("Throws `IllegalStateException` if it is alive",
        DEAD + "doubt 0 1; disputes 1 ! state; disputes 2 ! state; disputes 0 = 1");
  }

  private static void reopenings() {
    Sentences.promise("Promise 25: reopenings");
    Sentences.says("Returns how many reopenings of the estate of somebody there were: calls by "
        + "which its shares became others since it was closed.",
        DEAD + "doubt 0 5; judge 0 false; reopenings 0 = 0; close 0; reopenings 0 = 0; proof 0 2 5\n"
            + "reopenings 0 = 1; proof 0 2 4; reopenings 0 = 1; doubt 0 5; reopenings 0 = 2\n"
            + "judge 1 false; reopenings 0 = 3; reopenings 1 = 0; reopenings 2 = 0",
        Edges.people(4) + "proof 0 1 5; proof 1 2 5; death 0; death 1; close 0; close 1\n"
            + "proof 1 3 5; reopenings 0 = 1; reopenings 1 = 1; death 2; reopenings 0 = 1");
    Sentences.says("Throws `IndexOutOfBoundsException` as told",
        DEAD + "close 0\n" + noneOf(3, "reopenings N"), noneOf(0, "reopenings N"));
  }

  private static void grant() {
    Sentences.promise("Promise 26: grant");
    Sentences.says("Grants units.", TWO + "grant 1 3 5\n" + Edges.owners(2, -1, 1, 1, -1)
        + "area 1 = 2; area 0 = 0");
    Sentences.says("- `from`: 0 to 59",
        TWO + "grant 0 0 1 = 1; grant 0 59 60 = 1; grant 0 30 31 = 1; area 0 = 3\n"
            + Edges.owners(0, 0, -1) + Edges.owners(58, -1, 0));
    Sentences.says("- `to`: the unit behind the last one, from + 1 to 60",
        TWO + "grant 0 5 6 = 1\n" + Edges.owners(4, -1, 0, -1) + "grant 0 10 60 = 50\n"
            + Edges.owners(9, -1, 0) + Edges.owners(59, 0));
    Sentences.says("Returns how many units these are.",
        TWO + "grant 0 0 1 = 1; grant 1 1 9 = 8; grant 0 20 60 = 40", TWO + "grant 1 0 60 = 60");
    Sentences.says("Throws `IndexOutOfBoundsException` as told, of the person",
        TWO + noneOf(2, "grant N 0 5") + "owner 0 = NONE", noneOf(0, "grant N 0 5"));
    Sentences.says("Throws `IllegalArgumentException` if from or to is out of range",
        TWO + "grant 0 -1 5 ! argument; grant 0 60 61 ! argument; grant 0 MIN 5 ! argument\n"
            + "grant 0 MAX MIN ! argument; area 0 = 0",
        TWO + "grant 0 5 5 ! argument; grant 0 5 4 ! argument; grant 0 5 61 ! argument\n"
            + "grant 0 5 MIN ! argument; grant 0 5 MAX ! argument; grant 0 60 60 ! argument\n"
            + "area 0 = 0; grant 0 5 60 = 55");
    Sentences.says("Throws `IllegalStateException` if the person is dead, or one of the units was "
        + "granted before",
        TWO + "death 0; grant 0 0 5 ! state; area 0 = 0; grant 1 0 5 = 5",
        THREE + "grant 0 10 20; grant 1 19 21 ! state; grant 1 9 11 ! state; grant 1 0 60 ! state\n"
            + "grant 1 12 13 ! state; grant 0 10 20 ! state; area 1 = 0; grant 1 20 21 = 1\n"
            + "grant 1 9 10 = 1; hand 0 1 10 20; grant 2 10 11 ! state; death 1; close 1\n"
            + "grant 2 10 11 ! state; owner 10 = NONE");
  }

  private static void hand() {
    String land = THREE + "grant 0 10 20; grant 1 20 30\n";
    Sentences.promise("Promise 27: hand");
    Sentences.says("Hands those of some units that belong to a person to another one.",
        land + "hand 0 2 18 22; area 0 = 8; area 1 = 10; area 2 = 2\n"
            + Edges.owners(17, 0, 2, 2, 1, 1),
        land + "hand 0 2 0 60; area 0 = 0; area 2 = 10\n" + Edges.owners(9, -1, 2)
            + Edges.owners(19, 2, 1));
    Sentences.says("- `from`: 0 to 59",
        THREE + "grant 0 0 60; hand 0 1 0 1 = 1; hand 0 1 59 60 = 1; hand 0 1 30 31 = 1\n"
            + Edges.owners(0, 1, 0) + Edges.owners(58, 0, 1));
    Sentences.says("- `to`: the unit behind the last one, from + 1 to 60",
        THREE + "grant 0 0 60; hand 0 1 5 6 = 1\n" + Edges.owners(4, 0, 1, 0)
            + "hand 0 1 10 60 = 50\n" + Edges.owners(9, 0, 1) + Edges.owners(59, 1));
    Sentences.says("Returns how many units are handed now.",
        land + "hand 0 2 18 60 = 2; hand 0 2 0 60 = 8; hand 2 1 0 15 = 5; hand 1 0 14 21 = 2");
    Sentences.says("Throws `IndexOutOfBoundsException` as told, of either person",
        land + noneOf(3, "hand N 1 0 60"), land + noneOf(3, "hand 0 N 0 60"),
        noneOf(0, "hand N N 0 60"));
    Sentences.says("Throws `IllegalArgumentException` if both persons are the same, or from or to "
        + "is out of range",
        land + "hand 0 0 10 20 ! argument; hand 2 2 0 60 ! argument; area 0 = 10",
        land + "hand 0 1 -1 20 ! argument; hand 0 1 60 61 ! argument; hand 0 1 MIN 20 ! argument\n"
            + "hand 0 1 MAX MIN ! argument; area 0 = 10",
        land + "hand 0 1 15 15 ! argument; hand 0 1 15 14 ! argument; hand 0 1 15 61 ! argument\n"
            + "hand 0 1 15 MIN ! argument; hand 0 1 15 MAX ! argument; area 0 = 10");
    Sentences.says("Throws `IllegalStateException` if one of them is dead, none of the units "
        + "belongs to the first one now, or there were 60 handings",
        land + "death 0; hand 0 1 10 20 ! state; hand 1 0 20 30 ! state; area 0 = 10; area 1 = 10",
        land + "hand 0 1 20 60 ! state; hand 0 1 0 10 ! state; hand 2 1 0 60 ! state\n"
            + "hand 0 1 10 20; hand 0 1 10 20 ! state; area 1 = 20",
        land + Edges.times(30, "hand 0 1 10 20 = 10; hand 1 0 10 20 = 10")
            + "hand 0 1 10 20 ! state; area 0 = 10; area 1 = 10");
  }

  private static void owners() {
    String closed = Edges.people(5) + "grant 0 0 4; proof 0 1 5; proof 1 2 5; death 0; close 0\n"
        + "hand 1 3 0 1; grant 4 4 5; death 1; close 1\n";
    Sentences.promise("Promise 28: owner");
    Sentences.says("Returns to whom a unit belongs, as it is kept: behind a reopening land is drawn "
        + "anew from that closing on.",
        closed + "owner 0 = 3; owner 1 = 2; owner 2 = 2; owner 3 = 2; owner 4 = 4; owner 5 = NONE",
        closed + "proof 0 4 5; owner 0 = 3; owner 1 = 2; owner 2 = 4; owner 3 = 4; owner 4 = 4",
        closed + "proof 0 4 5; doubt 0 5; owner 0 = 4; owner 1 = 4; owner 3 = 4; owner 4 = 4\n"
            + "judge 0 false = 2; owner 0 = 3; owner 1 = 2; owner 2 = 4");
    Sentences.says("Returns the person; NONE for nobody.",
        TWO + "grant 0 0 1; grant 1 1 2; owner 0 = 0; owner 1 = 1; owner 2 = NONE; death 0; close 0\n"
            + "owner 0 = NONE; owner 1 = 1");
    Sentences.says("Throws `IndexOutOfBoundsException` as told",
        TWO + "grant 0 0 60\n" + noneOf(60, "owner N") + "owner 0 = 0; owner 59 = 0",
        noneOf(60, "owner N"));
    Sentences.promise("Promise 29: ownerAnew");
    Sentences.says("Returns the same, found by doing all grants, handings and closings anew, by "
        + "shares that are found from persons up.",
        closed + "ownerAnew 0 = 3; ownerAnew 1 = 2; ownerAnew 3 = 2; ownerAnew 4 = 4\n"
            + "ownerAnew 5 = NONE",
        closed + "proof 0 4 5; ownerAnew 0 = 3; ownerAnew 1 = 2; ownerAnew 2 = 4; ownerAnew 3 = 4",
        MANY.replace("death 1;", "grant 0 0 60; death 1;") + "claim 7 0; close 0; ownerAnew 3 = 7\n"
            + "ownerAnew 4 = 3; ownerAnew 23 = 3; ownerAnew 24 = 4; ownerAnew 48 = 4\n"
            + "ownerAnew 49 = 5; ownerAnew 56 = 5; ownerAnew 57 = 6; ownerAnew 59 = 6\n"
            + "doubt 3 5; ownerAnew 48 = 5; judge 0 false; ownerAnew 48 = 4");
    Sentences.says("Returns the person; NONE for nobody.",
        TWO + "grant 0 0 1; grant 1 1 2; ownerAnew 0 = 0; ownerAnew 1 = 1; ownerAnew 2 = NONE\n"
            + "death 0; close 0; ownerAnew 0 = NONE; ownerAnew 1 = 1");
    Sentences.says("Throws `IndexOutOfBoundsException` as told",
        TWO + "grant 0 0 60\n" + noneOf(60, "ownerAnew N") + "ownerAnew 0 = 0; ownerAnew 59 = 0",
        noneOf(60, "ownerAnew N"));
  }

  private static void parcels() {
    String land = THREE + "grant 0 0 5; grant 1 5 9; grant 0 9 10; grant 0 59 60\n";
    Sentences.promise("Promise 30: area");
    Sentences.says("Returns how many units belong to a person.",
        land + "area 0 = 7; area 1 = 4; area 2 = 0; hand 1 2 0 7; area 1 = 2; area 2 = 2; death 0\n"
            + "area 0 = 7; close 0; area 0 = 0; grant 2 20 59; area 2 = 41");
    Sentences.says("Throws `IndexOutOfBoundsException` as told",
        land + noneOf(3, "area N"), noneOf(0, "area N"));
    Sentences.promise("Promise 31: parcels");
    Sentences.says("Returns how many parcels there are.",
        "parcels = 0", land + "parcels = 4; hand 1 0 5 9; parcels = 2; grant 2 10 59; parcels = 3\n"
            + "death 2; parcels = 3; close 2; parcels = 2");
    Sentences.promise("Promise 32: parcelAt");
    Sentences.says("Returns the parcel of a unit.",
        land + "parcelAt 0 = 5; parcelAt 3 = 5; parcelAt 5 = 504; parcelAt 8 = 504; parcelAt 9 = 901");
    Sentences.says("Returns 100 times its first unit, and how many units it has, together.",
        land + "parcelAt 59 = 5901; parcelAt 4 = 5; hand 1 0 5 9; parcelAt 7 = 10",
        TWO + "grant 1 0 60; parcelAt 0 = 60; parcelAt 59 = 60; hand 1 0 12 34; parcelAt 20 = 1222\n"
            + "parcelAt 40 = 3426");
    Sentences.says("Throws `IndexOutOfBoundsException` as told",
        TWO + "grant 0 0 60\n" + noneOf(60, "parcelAt N"), noneOf(60, "parcelAt N"));
    Sentences.says("Throws `java` .util.NoSuchElementException if the unit belongs to nobody",
        land + "parcelAt 10 ! element; parcelAt 58 ! element; death 1; close 1; parcelAt 5 ! element",
        "parcelAt 0 ! element; parcelAt 59 ! element");
  }

  private static void notPromised() {
    Sentences.below("Not promised");
    Sentences.isFree("How the state is held inside the object is free, as are the speed of each "
        + "call, the text of toString and the behaviour of equals and hashCode.");
    Sentences.isFree("Use of one object from several threads at once is not promised to be safe.");
    Sentences.isFree("Nothing is promised beyond the answers and state changes described above, and "
        + "nothing about an object after its 512th call.");
  }
}
