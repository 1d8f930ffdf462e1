/** The sentences that stand ahead of the promises. */
final class TermsSentences {
  private TermsSentences() {}

  static void say() {
    whatItIs();
    thePublicFace();
    terms();
    people();
    proofsAndDoubts();
    kin();
    whoIsAskedOfEstates();
    sharesByKin();
    sharesByWill();
    claims();
    land();
    drawnLand();
    exceptions();
    theInterface();
  }

  private static void whatItIs() {
    Sentences.below("What it is");
    Sentences.says("Treeclerk, a register of births with an inheritance court and a land index: kin "
        + "are told by proofs that can be doubted and fall, estates are shared out by wills and by "
        + "lines of kin, and boundaries are drawn by whole units.",
        Edges.people(3) + """
            proof 0 2 5; childrenOf 0 = 4; doubt 0 5; childrenOf 0 = 0; judge 0 false
            childrenOf 0 = 4; doubt 0 1; judge 1 true; childrenOf 0 = 0
            """,
        Edges.people(3) + "will 0 1 1; proof 0 2 5; death 0\n" + Edges.share(1, 0, 1, 2)
            + Edges.share(2, 0, 1, 2),
        Edges.people(4) + "grant 0 0 4; proof 0 1 5; proof 0 2 5; proof 0 3 5; death 0; close 0\n"
            + Edges.owners(0, 1, 1, 2, 3));
    Sentences.says("An object is used for at most 512 calls after it has been made; what later "
        + "calls answer is free.",
        Edges.times(510, "people = 0") + "birth 0 = 0; people = 1",
        Edges.people(3) + "grant 0 0 2; proof 0 1 5; death 0; close 0\n"
            + Edges.times(499, "owner 0 = 1") + "hand 1 2 0 1 = 1; owner 0 = 2; ownerAnew 0 = 2\n"
            + "parcels = 2; parcelAt 1 = 101");
  }

  private static void thePublicFace() {
    Sentences.below(Face.HEADING);
    for (Document.Sentence sentence : Document.sentences()) {
      if (sentence.heading().equals(Face.HEADING)) {
        Sentences.shows(sentence.text(), Face.has(sentence.text()));
      }
    }
  }

  private static void terms() {
    Sentences.below("Terms");
    String closed = Edges.people(4) + "grant 0 0 4; proof 0 1 5; proof 1 2 5; death 0; close 0\n";
    Sentences.says("Whatever is told of kin later counts for estates that were closed before, too: "
        + "their shares are opened anew, boundaries move, and with them the land of those who died "
        + "since.",
        closed + "proof 0 3 5; heirs 0 = 2\n" + Edges.share(1, 0, 1, 2) + Edges.share(3, 0, 1, 2)
            + Edges.owners(0, 1, 1, 3, 3),
        closed + "doubt 0 5; heirs 0 = 0\n" + Edges.owners(0, -1, -1, -1, -1)
            + "judge 0 false; heirs 0 = 1\n" + Edges.owners(0, 1, 1, 1, 1),
        closed + "death 1; close 1\n" + Edges.owners(0, 2, 2, 2, 2) + "proof 0 3 5\n"
            + Edges.owners(0, 2, 2, 3, 3) + "area 1 = 0; area 2 = 2; area 3 = 2",
        closed + "death 1\n" + Edges.owners(0, 1, 1, 1, 1) + "proof 0 3 5; area 1 = 2; area 3 = 2\n"
            + "close 1; area 1 = 0; area 2 = 2");
  }

  private static void people() {
    Sentences.below("People");
    Sentences.says("Today is a day, 0 at first.", "today = 0; pass 1 = 1; today = 1");
    Sentences.says("People are numbered from 0, at most 14; a person is born on a day and alive "
        + "until it dies.",
        "pass 20\n" + Edges.each(0, 14, p -> "birth " + (20 - p) + " = " + p)
            + "birth 0 ! state; people = 14; isAlive 13 = true; isAlive 14 ! index",
        "pass 10; birth 7; birth 3; proof 0 1 5 ! argument; proof 1 0 5 = 0",
        """
        birth 0; isAlive 0 = true; pass 100; isAlive 0 = true; death 0; isAlive 0 = false
        pass 100; isAlive 0 = false; close 0; isAlive 0 = false; death 0 ! state
        """);
  }

  private static void proofsAndDoubts() {
    Sentences.below("Proofs and doubts");
    Sentences.says("Proofs are numbered from 0, at most 30.",
        Edges.people(2) + "strength 0 ! index\n"
            + Edges.each(0, 30, n -> "proof 0 1 5 = " + n + "; strength " + n + " = 5")
            + "proof 0 1 5 ! state; strength 30 ! index");
    Sentences.says("A proof says that a person is a parent of another one, its child, who was born "
        + "on a later day, and has a weight, 1 to 9.",
        Edges.people(3) + """
            proof 0 2 5 = 0; parentOf 2 0 = 0; parentOf 2 1 = NONE; parentOf 0 0 = NONE
            parentOf 1 0 = NONE; childrenOf 0 = 4; childrenOf 1 = 0; childrenOf 2 = 0
            """,
        "pass 10; birth 4; birth 4; birth 5; proof 0 1 5 ! argument; proof 2 0 5 ! argument\n"
            + "proof 0 0 5 ! argument; proof 0 2 5 = 0; childrenOf 0 = 4",
        Edges.people(2) + Edges.each(1, 10, w -> "proof 0 1 " + w + "; strength " + (w - 1) + " = "
            + w) + "proof 0 1 0 ! argument; proof 0 1 10 ! argument");
    Sentences.says("Doubts are numbered from 0, at most 30; a doubt is against a proof and has a "
        + "weight, 1 to 9; it is open until it is judged, or the proof falls.",
        Edges.people(2) + "proof 0 1 5; judge 0 true ! index\n"
            + Edges.each(0, 30, n -> "doubt 0 1 = " + n) + "openDoubts = 30; doubt 0 1 ! state\n"
            + "judge 29 false; judge 30 true ! index",
        Edges.people(3) + "proof 0 1 9; proof 0 2 9; doubt 1 3; strength 0 = 9; strength 1 = 6\n"
            + "doubt 2 3 ! index",
        Edges.people(2) + Edges.each(1, 10, w -> "proof 0 1 9; doubt " + (w - 1) + " " + w
            + "; strength " + (w - 1) + " = " + (9 - w)) + "doubt 0 0 ! argument\n"
            + "doubt 0 10 ! argument",
        Edges.people(2) + """
            proof 0 1 9; doubt 0 1; doubt 0 2; openDoubts = 2; pass 100; openDoubts = 2
            judge 0 false; openDoubts = 1; judge 0 false ! state; strength 0 = 7
            """,
        Edges.people(3) + """
            proof 0 1 9; proof 0 2 9; doubt 0 1; doubt 1 1; doubt 0 2; judge 0 true; openDoubts = 1
            judge 2 false ! state; judge 1 true; openDoubts = 0
            """);
    String nine = Edges.people(2) + "proof 0 1 9\n";
    Sentences.says("The strength of a proof is its weight less the weights of all open doubts "
        + "against it, but 0 at least, and 0 if it has fallen.",
        nine + "strength 0 = 9; doubt 0 2; strength 0 = 7; doubt 0 3; strength 0 = 4",
        nine + "doubt 0 2; doubt 0 3; judge 0 false; strength 0 = 6; judge 1 false; strength 0 = 9",
        nine + "proof 0 1 7; doubt 1 4; strength 0 = 9; strength 1 = 3",
        nine + "doubt 0 5; doubt 0 5; strength 0 = 0; judge 0 false; strength 0 = 4",
        nine + "doubt 0 1; judge 0 true; strength 0 = 0");
    Sentences.says("A proof stands if its strength is above 0.",
        nine + "doubt 0 8; strength 0 = 1; childrenOf 0 = 2; parentOf 1 0 = 0",
        nine + "doubt 0 9; strength 0 = 0; childrenOf 0 = 0; parentOf 1 0 = NONE",
        nine + "doubt 0 1; judge 0 true; childrenOf 0 = 0; parentOf 1 0 = NONE",
        nine + "doubt 0 9; judge 0 false; childrenOf 0 = 2; parentOf 1 0 = 0");
  }

  private static void kin() {
    Sentences.says("The parents of a person are told by the proofs that stand by now: of all those "
        + "who are its parents by one of them, the two with the greatest strengths (each counted by "
        + "the strongest proof), the greater one first; of several with the same strength the lower "
        + "person is ahead.",
        Edges.people(3) + "proof 0 2 5; parentOf 2 0 = 0; doubt 0 5; parentOf 2 0 = NONE\n"
            + "proof 1 2 1; parentOf 2 0 = 1; judge 0 false; parentOf 2 0 = 0; parentOf 2 1 = 1",
        Edges.people(5) + "proof 0 4 2; proof 1 4 4; proof 2 4 5; proof 3 4 3; parentOf 4 0 = 2\n"
            + "parentOf 4 1 = 1; doubt 2 2; parentOf 4 0 = 1; parentOf 4 1 = 2",
        Edges.people(4) + "proof 0 3 4; proof 1 3 5; proof 2 3 1; proof 2 3 6; proof 2 3 2\n"
            + "parentOf 3 0 = 2; parentOf 3 1 = 1",
        Edges.people(4) + "proof 2 3 3; proof 2 3 3; proof 0 3 4; proof 1 3 5; parentOf 3 0 = 1\n"
            + "parentOf 3 1 = 0",
        Edges.people(3) + "proof 0 2 4; proof 1 2 5; parentOf 2 0 = 1; parentOf 2 1 = 0",
        Edges.people(4) + "proof 2 3 5; proof 1 3 5; proof 0 3 5; parentOf 3 0 = 0\n"
            + "parentOf 3 1 = 1; doubt 2 1; parentOf 3 0 = 1; parentOf 3 1 = 2",
        Edges.people(3) + "proof 0 2 5; proof 0 2 5; parentOf 2 0 = 0; parentOf 2 1 = NONE");
    Sentences.says("Its children are those who have it as a parent by that.",
        Edges.people(4) + "proof 0 2 5; proof 0 3 5; proof 1 3 4; childrenOf 0 = 12\n"
            + "childrenOf 1 = 8; childrenOf 2 = 0",
        Edges.people(4) + "proof 0 3 5; proof 1 3 4; proof 2 3 3; childrenOf 2 = 0; doubt 0 3\n"
            + "childrenOf 0 = 0; childrenOf 2 = 8");
  }

  private static void whoIsAskedOfEstates() {
    Sentences.below("Estates");
    Sentences.says("Somebody who has died has an estate, which is not closed at first, and can be "
        + "closed once.",
        Edges.people(2) + """
            heirs 0 ! state; close 0 ! state; isClosed 0 = false; death 0; heirs 0 = 0
            isClosed 0 = false; close 0 = 0; isClosed 0 = true; close 0 ! state; isClosed 1 = false
            """);
    String dead = "pass 50; birth 0; death 0; pass 50; birth 49; birth 50; birth 51\n";
    Sentences.says("A person counts for an estate if it was born on the day of that death or "
        + "earlier.",
        dead + "proof 0 1 5\n" + Edges.share(1, 0, 1, 1),
        dead + "proof 0 2 5\n" + Edges.share(2, 0, 1, 1),
        dead + "proof 0 3 5; heirs 0 = 0\n" + Edges.share(3, 0, 0, 1),
        dead + "proof 0 1 5; proof 0 2 5; proof 0 3 5; close 0 = 2; heirs 0 = 2");
    String two = Edges.people(4) + "proof 0 1 5; proof 0 2 5; proof 1 3 5; death 0\n";
    Sentences.says("Who was alive at the closing is told by deaths: those who died behind the "
        + "closing were alive, and so was whoever was registered later; for an estate that is not "
        + "closed yet it is asked who is alive now.",
        two + "close 0; death 1; death 2\n" + Edges.share(1, 0, 1, 2) + Edges.share(2, 0, 1, 2)
            + Edges.share(3, 0, 0, 1),
        two + "death 1; close 0; death 2\n" + Edges.share(1, 0, 0, 1) + Edges.share(2, 0, 1, 2)
            + Edges.share(3, 0, 1, 2),
        two + "close 0; birth 9; death 4; proof 0 4 5\n" + Edges.share(4, 0, 1, 3),
        two + Edges.share(1, 0, 1, 2) + "death 1\n" + Edges.share(1, 0, 0, 1)
            + Edges.share(3, 0, 1, 2) + "death 3\n" + Edges.share(2, 0, 1, 1));
    Sentences.says("The line of a person is living (for an estate) if the person counts, and was "
        + "alive at the closing, or the line of one of its children is living.",
        Edges.people(3) + "proof 0 1 5; death 0; heirs 0 = 1; death 1; heirs 0 = 0",
        Edges.people(3) + "proof 0 1 5; proof 0 2 5; death 0; death 1; heirs 0 = 1\n"
            + Edges.share(2, 0, 1, 1),
        "pass 50; birth 0; death 0; pass 1; birth 51; proof 0 1 5; heirs 0 = 0",
        Edges.people(4) + "proof 0 1 5; proof 1 2 5; proof 2 3 5; death 1; death 2; death 0\n"
            + "heirs 0 = 1; death 3; heirs 0 = 0",
        Edges.people(3) + "proof 0 1 5; proof 1 2 5; death 1; death 0; close 0; death 2\n"
            + Edges.share(2, 0, 1, 1));
  }

  private static void sharesByKin() {
    Sentences.says("Shares by kin.",
        Edges.people(3) + "proof 0 1 5; death 0\n" + Edges.share(1, 0, 1, 1)
            + Edges.share(2, 0, 0, 1));
    // 0 to 3 are the parents of 4 and 5, who are those of 6; 7 is a child of 6, 8 one of 4.
    String kin = Edges.people(9) + """
        proof 0 4 5; proof 1 4 5; proof 2 5 5; proof 3 5 5; proof 4 6 5; proof 5 6 5; proof 6 7 5
        proof 4 8 5; death 6
        """;
    Sentences.says("The first heads are the dead person alone; if its line is not living, they are "
        + "its parents, and if none of their lines is living, the parents of its parents, each "
        + "once.",
        kin + "heirs 6 = 1\n" + Edges.share(7, 6, 1, 1),
        kin + "death 7; heirs 6 = 2\n" + Edges.share(4, 6, 1, 2) + Edges.share(5, 6, 1, 2),
        kin + "death 7; death 4; death 5; heirs 6 = 1\n" + Edges.share(8, 6, 1, 1),
        kin + "death 7; death 4; death 5; death 8; heirs 6 = 4\n" + Edges.share(0, 6, 1, 4)
            + Edges.share(3, 6, 1, 4),
        Edges.people(5) + "proof 0 2 5; proof 0 3 5; proof 1 3 5; proof 2 4 5; proof 3 4 5\n"
            + "death 2; death 3; death 4\n" + Edges.share(0, 4, 1, 2) + Edges.share(1, 4, 1, 2));
    Sentences.says("Those heads whose lines are living get the same share of the whole.",
        kin + "death 7; death 4\n" + Edges.share(5, 6, 1, 2) + Edges.share(8, 6, 1, 2),
        kin + "death 7; death 5\n" + Edges.share(4, 6, 1, 1),
        kin + "death 7; death 4; death 5; death 8; death 1\n" + Edges.share(0, 6, 1, 3)
            + Edges.share(2, 6, 1, 3) + Edges.share(3, 6, 1, 3));
    String lines = Edges.people(7) + """
        proof 0 1 5; proof 0 2 5; proof 0 3 5; proof 1 4 5; proof 1 5 5; proof 2 6 5; death 0
        """;
    Sentences.says("What comes to somebody who was alive at the closing is its share; what comes to "
        + "somebody who was not is shared out, the same to each of its children whose line is "
        + "living.",
        lines + Edges.share(1, 0, 1, 3) + Edges.share(4, 0, 0, 1) + "heirs 0 = 3",
        lines + "death 1\n" + Edges.share(1, 0, 0, 1) + Edges.share(4, 0, 1, 6)
            + Edges.share(5, 0, 1, 6) + Edges.share(2, 0, 1, 3),
        lines + "death 1; death 4\n" + Edges.share(5, 0, 1, 3),
        lines + "death 1; death 4; death 5\n" + Edges.share(2, 0, 1, 2) + Edges.share(3, 0, 1, 2),
        lines + "close 0; death 1\n" + Edges.share(1, 0, 1, 3) + Edges.share(4, 0, 0, 1));
    Sentences.says("Somebody to whom shares come on several ways has them together.",
        Edges.people(5) + "proof 0 1 5; proof 0 2 5; proof 1 3 5; proof 2 3 5; proof 2 4 5\n"
            + "death 0; death 1; death 2\n" + Edges.share(3, 0, 3, 4) + Edges.share(4, 0, 1, 4),
        Edges.people(4) + "proof 0 1 5; proof 0 2 5; proof 1 2 5; proof 0 3 5; death 0; death 2\n"
            + Edges.share(1, 2, 3, 4) + Edges.share(3, 2, 1, 4));
    Sentences.says("If no line of any heads is living, there are no shares by kin.",
        Edges.people(2) + "death 0; heirs 0 = 0\n" + Edges.share(1, 0, 0, 1),
        Edges.people(4) + "proof 0 1 5; proof 1 2 5; proof 2 3 5; death 1; death 2; death 3\n"
            + "heirs 3 = 0\n" + Edges.share(0, 3, 0, 1) + "heirs 2 = 1");
  }

  private static void sharesByWill() {
    Sentences.says("A will of a person gives other persons a weight, 0 to 9, 0 at first.",
        Edges.people(3) + Edges.each(0, 10, w -> "will 0 1 " + w + " = " + Math.max(w - 1, 0))
            + "will 0 1 0 = 9; will 0 1 -1 ! argument; will 0 1 10 ! argument\n"
            + "will 0 0 1 ! argument; will 0 2 0 = 0; will 1 0 0 = 0");
    Sentences.says("Shares by will are those weights divided by the sum of all weights of persons "
        + "who were alive at the closing; others get nothing by it.",
        Edges.people(4) + "will 0 1 1; will 0 2 2; will 0 3 5; death 0\n" + Edges.share(1, 0, 1, 8)
            + Edges.share(2, 0, 1, 4) + Edges.share(3, 0, 5, 8) + "death 3\n"
            + Edges.share(1, 0, 1, 3) + Edges.share(2, 0, 2, 3) + Edges.share(3, 0, 0, 1),
        Edges.people(4) + "will 0 1 1; will 0 2 1; proof 1 3 5; death 1; death 0; close 0\n"
            + "death 2\n" + Edges.share(2, 0, 1, 1) + Edges.share(1, 0, 0, 1)
            + Edges.share(3, 0, 0, 1));
    Sentences.says("The shares of an estate are those by will, if it has any, and the line of the "
        + "dead person is not living; half of those by will and half of those by kin, together, if "
        + "it has some by will and that line is living; otherwise those by kin.",
        Edges.people(3) + "will 1 2 3; proof 0 1 5; death 1; heirs 1 = 1\n"
            + Edges.share(2, 1, 1, 1) + Edges.share(0, 1, 0, 1),
        Edges.people(4) + "will 0 1 1; will 0 2 2; proof 0 2 5; proof 0 3 5; death 0; heirs 0 = 3\n"
            + Edges.share(1, 0, 1, 6) + Edges.share(2, 0, 7, 12) + Edges.share(3, 0, 1, 4),
        Edges.people(3) + "proof 0 1 5; death 1\n" + Edges.share(0, 1, 1, 1),
        Edges.people(3) + "will 1 2 3; proof 0 1 5; death 2; death 1\n" + Edges.share(0, 1, 1, 1),
        Edges.people(3) + "will 0 1 3; proof 0 2 5; death 1; death 0\n" + Edges.share(2, 0, 1, 1));
    Sentences.says("If there are none, it has no heirs.",
        Edges.people(2) + "death 0; heirs 0 = 0; close 0 = 0; heirs 0 = 0\n"
            + Edges.share(1, 0, 0, 1),
        Edges.people(2) + "will 0 1 5; proof 0 1 5; death 1; death 0; heirs 0 = 0; close 0 = 0");
  }

  private static void claims() {
    Sentences.says("Claims to an estate that is not closed can be filed by the living, once by "
        + "each.",
        Edges.people(4) + """
            claim 1 0 ! state; death 0; claim 1 0 = 1; claim 1 0 ! state; claim 2 0 = 2
            claim 0 0 ! state; death 1; claim 1 0 ! state; close 0; claim 3 0 ! state; claims 0 = 1
            """);
    String four = Edges.people(5)
        + "grant 0 0 5; proof 0 1 5; proof 0 2 5; proof 0 3 5; proof 0 4 5; death 0\n";
    Sentences.says("The rank of heirs: those who have filed by the order in which they filed, all "
        + "others behind them by their numbers.",
        four + "close 0\n" + Edges.owners(0, 1, 1, 2, 3, 4),
        four + "claim 4 0; claim 2 0; close 0\n" + Edges.owners(0, 4, 4, 2, 1, 3),
        four + "claim 3 0; claim 4 0; claim 1 0; claim 2 0; close 0\n"
            + Edges.owners(0, 3, 3, 4, 1, 2));
    Sentences.says("When somebody dies, its claims to estates that are not closed are gone.",
        Edges.people(5) + """
            death 0; death 1; claim 3 0; claim 2 0; claim 2 1; close 1; death 2 = 1
            claims 0 = 1; claims 1 = 1; claim 4 0 = 2
            """,
        four + "birth 9; proof 3 5 5; claim 3 0; claim 2 0; death 3 = 1; close 0\n"
            + Edges.owners(0, 2, 2, 1, 4, 5));
  }

  private static void land() {
    Sentences.below("Land");
    Sentences.says("There are the units of land 0 to 59, in a row.",
        "owner -1 ! index; owner 0 = NONE; owner 59 = NONE; owner 60 ! index; ownerAnew 60 ! index",
        "birth 0; grant 0 0 60 = 60; area 0 = 60; parcels = 1; parcelAt 0 = 60; parcelAt 59 = 60");
    Sentences.says("A unit belongs to a person, alive or dead, or to nobody, as at first.",
        Edges.people(2) + Edges.owners(0, -1, -1) + "grant 1 0 1\n" + Edges.owners(0, 1, -1)
            + "death 1\n" + Edges.owners(0, 1, -1) + "close 1\n" + Edges.owners(0, -1, -1),
        Edges.each(0, 60, u -> "owner " + u + " = NONE; ownerAnew " + u + " = NONE"));
  }

  private static void drawnLand() {
    String heirs = Edges.people(5) + "proof 0 1 5; proof 0 2 5; proof 0 3 5\n";
    Sentences.says("A grant gives units that were never granted before to a person; it can be "
        + "handed from one to another; and when an estate is closed, the units that belong to the "
        + "dead person by then are drawn, from the lowest one on, by the rank of the heirs: each "
        + "gets as many of them as the number of these units times its share, rounded down; what is "
        + "left over goes to the heirs one unit each, by rank; so each heir gets its units in one "
        + "row of these.",
        Edges.people(2) + "grant 0 3 5 = 2\n" + Edges.owners(2, -1, 0, 0, -1)
            + "grant 1 4 6 ! state; grant 1 5 6 = 1; death 0; close 0; grant 1 3 5 ! state",
        Edges.people(2) + "grant 0 3 5; hand 0 1 4 5 = 1\n" + Edges.owners(3, 0, 1)
            + "hand 1 0 4 5 = 1\n" + Edges.owners(3, 0, 0),
        heirs + "grant 0 0 9; hand 0 4 0 2; grant 4 9 12; hand 4 0 11 12; death 0\n"
            + Edges.owners(0, 4, 4, 0, 0, 0, 0, 0, 0, 0, 4, 4, 0) + "close 0 = 3\n"
            + Edges.owners(0, 4, 4, 1, 1, 1, 2, 2, 2, 3, 4, 4, 3),
        heirs + "grant 0 20 26; death 0; claim 3 0; close 0\n"
            + Edges.owners(20, 3, 3, 1, 1, 2, 2),
        heirs + "grant 0 0 8; death 0; claim 2 0; close 0\n"
            + Edges.owners(0, 2, 2, 2, 1, 1, 1, 3, 3),
        heirs + "grant 0 0 2; death 0; close 0\n" + Edges.owners(0, 1, 2),
        heirs + "grant 0 0 4; death 0; close 0\n" + Edges.owners(0, 1, 1, 2, 3),
        Edges.people(3) + "grant 0 0 9; will 0 1 1; will 0 2 9; death 0; close 0; area 1 = 1\n"
            + "area 2 = 8",
        Edges.people(3) + "grant 0 0 20; will 0 1 1; will 0 2 9; death 0; close 0; area 1 = 2\n"
            + "area 2 = 18");
    Sentences.says("Without heirs they belong to nobody from then on.",
        Edges.people(2) + "grant 0 0 2; grant 1 2 3; death 0; close 0\n"
            + Edges.owners(0, -1, -1, 1) + "area 0 = 0; pass 100\n" + Edges.owners(0, -1, -1, 1)
            + "hand 1 0 0 3 ! state; grant 1 0 1 ! state");
    String handed = Edges.people(4)
        + "grant 0 0 4; grant 1 4 5; proof 0 1 5; death 0; close 0; hand 1 2 1 5 = 4\n";
    Sentences.says("Land is at any time what all grants, handings and closings, in the order in "
        + "which they were done, make of it by the shares that estates have by now; a handing hands "
        + "whatever of its units belongs to the person at its place in this order.",
        handed + Edges.owners(0, 1, 2, 2, 2, 2) + "proof 0 3 5\n" + Edges.owners(0, 1, 2, 3, 3, 2)
            + "doubt 0 5\n" + Edges.owners(0, 3, 3, 3, 3, 2) + "judge 0 false\n"
            + Edges.owners(0, 1, 2, 3, 3, 2),
        Edges.people(4) + "grant 0 0 2; proof 0 1 5; proof 0 3 5; death 0; close 0\n"
            + "hand 1 2 0 2 = 1\n" + Edges.owners(0, 2, 3) + "doubt 1 5\n" + Edges.owners(0, 2, 2),
        Edges.people(4) + "grant 0 0 2; grant 1 2 4; proof 0 1 5; proof 1 2 5; death 0; death 1\n"
            + "close 1; hand 2 3 2 3; close 0\n" + Edges.owners(0, 2, 2, 3, 2)
            + "proof 1 3 5\n" + Edges.owners(0, 2, 3, 3, 3),
        Edges.people(4) + "grant 0 0 2; grant 1 2 4; proof 0 1 5; proof 1 2 5; death 0; death 1\n"
            + "close 0; close 1\n" + Edges.owners(0, 2, 2, 2, 2) + "proof 1 3 5\n"
            + Edges.owners(0, 2, 3, 2, 3));
    Sentences.says("When the shares of a closed estate become others, that is a reopening of it.",
        handed + "reopenings 0 = 0; proof 0 3 5; reopenings 0 = 1; proof 1 2 5; reopenings 0 = 1\n"
            + "doubt 1 5; reopenings 0 = 2; reopenings 1 = 0",
        Edges.people(4) + "proof 0 1 5; proof 0 2 5; proof 1 3 5; death 1; death 0; close 0 = 2\n"
            + "proof 0 3 5; heirs 0 = 2; reopenings 0 = 1\n" + Edges.share(3, 0, 2, 3),
        Edges.people(2) + "death 0; proof 0 1 5; heirs 0 = 1; reopenings 0 = 0; close 0\n"
            + "reopenings 0 = 0");
    Sentences.says("A parcel is a row of units side by side, as long as can be, that belong to the "
        + "same person.",
        Edges.people(2) + "grant 0 0 2; grant 0 2 5; grant 1 5 6; grant 0 6 7; grant 0 9 10\n"
            + "parcels = 4; parcelAt 0 = 5; parcelAt 4 = 5; parcelAt 5 = 501; parcelAt 6 = 601\n"
            + "parcelAt 9 = 901; parcelAt 7 ! element; hand 1 0 5 6; parcels = 2; parcelAt 5 = 7");
  }

  private static void exceptions() {
    Sentences.below("Exceptions");
    Sentences.says("IndexOutOfBoundsException: there is no such person, proof, doubt or unit.",
        Edges.people(2) + "isAlive -1 ! index; isAlive 2 ! index; claims 14 ! index; area MAX ! index",
        Edges.people(2) + "strength 0 ! index; proof 0 1 5; strength 1 ! index; doubt -1 5 ! index",
        Edges.people(2) + "proof 0 1 5; judge 0 true ! index; doubt 0 1; judge 1 true ! index\n"
            + "judge -1 true ! index; judge 0 true = 0",
        "owner -1 ! index; owner 60 ! index; ownerAnew MIN ! index; parcelAt MAX ! index");
    Sentences.says("IllegalArgumentException: another argument is out of its range.",
        Edges.people(2) + """
            pass 0 ! argument; pass 101 ! argument; birth -1 ! argument; birth 101 ! argument
            proof 0 1 0 ! argument; proof 0 1 10 ! argument; proof 1 0 5 ! argument
            proof 0 1 5; doubt 0 0 ! argument; doubt 0 10 ! argument
            parentOf 0 -1 ! argument; parentOf 0 2 ! argument
            will 0 1 -1 ! argument; will 0 1 10 ! argument; will 0 0 5 ! argument
            grant 0 -1 5 ! argument; grant 0 60 61 ! argument; grant 0 5 5 ! argument
            grant 0 5 61 ! argument; grant 0 0 60; hand 0 0 0 5 ! argument
            hand 0 1 -1 5 ! argument; hand 0 1 60 61 ! argument; hand 0 1 5 5 ! argument
            hand 0 1 5 61 ! argument
            """);
    Sentences.says("IllegalStateException, NoSuchElementException: as the method tells.",
        Edges.people(3) + """
            heirs 0 ! state; disputes 0 ! state; shareAbove 1 0 ! state; shareBelow 1 0 ! state
            shareAboveByWays 1 0 ! state; close 0 ! state; claim 1 0 ! state; death 0
            death 0 ! state; will 0 1 1 ! state; grant 0 0 1 ! state; grant 1 0 1
            hand 1 0 0 1 ! state; hand 0 1 0 1 ! state; hand 2 1 0 1 ! state; claim 1 0
            claim 1 0 ! state; close 0; close 0 ! state; claim 2 0 ! state; grant 1 0 1 ! state
            proof 0 1 5; doubt 0 5; judge 0 true; judge 0 true ! state; doubt 0 5 ! state
            parcelAt 1 ! element
            """,
        Edges.times(20, "pass 100") + "pass 1 ! state\n" + Edges.times(14, "birth 0")
            + "birth 0 ! state");
    severalExceptions();
    Sentences.says("The constants: `NONE = -1`: There is none.",
        Edges.people(1) + "parentOf 0 0 = NONE; parentOf 0 1 = -1; owner 0 = NONE; ownerAnew 0 = -1");
  }

  private static void severalExceptions() {
    String full = Edges.people(3) + Edges.times(30, "proof 0 1 5") + Edges.times(30, "doubt 0 1");
    Sentences.says("If several apply, the one that is named first in the throws clause is thrown; a "
        + "call that throws changes nothing.",
        Edges.times(20, "pass 100") + "pass 101 ! argument; pass 0 ! argument; pass 1 ! state",
        Edges.times(14, "birth 0") + "birth 1 ! argument; birth -1 ! argument; birth 0 ! state",
        full + "proof 3 1 0 ! index; proof 0 3 0 ! index; proof 0 1 10 ! argument\n"
            + "proof 1 0 5 ! argument; proof 0 1 5 ! state; strength 30 ! index",
        full + "judge 0 true; doubt 30 10 ! index; doubt 0 10 ! argument; doubt 0 1 ! state",
        Edges.people(2) + "parentOf 2 2 ! index; parentOf -1 -1 ! index; parentOf 1 2 ! argument",
        Edges.people(2) + "death 0; will 2 0 10 ! index; will 0 2 10 ! index; will 2 2 5 ! index\n"
            + "will 0 1 10 ! argument; will 0 0 5 ! argument; will 0 1 5 ! state",
        Edges.people(2) + "claim 2 0 ! index; shareAbove 2 0 ! index; shareBelow 2 0 ! index\n"
            + "shareAboveByWays 2 0 ! index; shareAbove 1 0 ! state; death 0; claim 0 2 ! index",
        Edges.people(2) + "grant 0 0 9; death 0; grant 2 0 0 ! index; grant 2 0 9 ! index\n"
            + "grant 0 0 0 ! argument; grant 0 0 9 ! state; area 0 = 9",
        Edges.people(2) + "grant 0 5 9; grant 1 3 6 ! state; grant 1 8 11 ! state; area 1 = 0\n"
            + "grant 1 3 5 = 2; grant 1 9 11 = 2",
        Edges.people(2) + "grant 0 0 9; death 0; hand 0 2 0 0 ! index; hand 2 2 0 9 ! index\n"
            + "hand 0 0 0 9 ! argument; hand 0 1 9 9 ! argument; hand 0 1 0 9 ! state; area 0 = 9",
        Edges.people(2) + "death 1; parcelAt 60 ! index; parcelAt -1 ! index; parcelAt 59 ! element",
        "death 0 ! index; close 0 ! index; heirs 0 ! index; disputes 0 ! index; judge 0 true ! index");
  }

  private static void theInterface() {
    int headings = 0;
    while (Sentences.following().startsWith("Ahead of the calls ")) {
      String sentence = Sentences.following();
      Sentences.shows(sentence, Source.says(sentence));
      headings++;
    }
    Check.due("headings of the interface", headings, 5);
  }
}
