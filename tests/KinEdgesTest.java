/** The edges of promises 8 to 14: proofs, doubts, parents and children. */
public final class KinEdgesTest {
  private static final String THIRTY_PROOFS =
      Edges.each(0, 30, n -> "proof 0 " + (1 + n % 2) + " 5 = " + n);
  private static final String THIRTY_DOUBTS =
      "proof 0 1 5; proof 0 2 9\n" + Edges.each(0, 30, n -> "doubt 1 9 = " + n);

  public static void main(String[] args) {
    proof();
    proofThrows();
    proofThrowsTheFirst();
    doubt();
    doubtThrows();
    doubtThrowsTheFirst();
    judge();
    judgeAndLand();
    judgeThrows();
    strength();
    openDoubts();
    parentOf();
    parentOfTheEqual();
    parentOfThrows();
    childrenOf();
    Edges.finish(8, 14);
  }

  private static void proof() {
    Edges.edge("8 proof: weight 1, the least", Edges.people(2) + "proof 0 1 1 = 0; strength 0 = 1");
    Edges.edge("8 proof: weight 9, the most", Edges.people(2) + "proof 0 1 9 = 0; strength 0 = 9");
    Edges.edge("8 proof: the child was born a day later",
        "pass 9; birth 8; birth 9; proof 0 1 5 = 0; childrenOf 0 = 2");
    Edges.edge("8 proof: the child was born 2000 days later",
        "birth 0\n" + Edges.times(20, "pass 100") + "birth 2000; proof 0 1 5 = 0");
    Edges.edge("8 proof: the first and the last person",
        Edges.people(14) + "proof 0 13 5 = 0; parentOf 13 0 = 0; childrenOf 0 = 8192");
    Edges.edge("8 proof: the child has the lower number",
        "pass 9; birth 9; birth 0; proof 1 0 5 = 0; parentOf 0 0 = 1");
    Edges.edge("8 proof: the 30th is number 29",
        Edges.people(3) + THIRTY_PROOFS + "strength 29 = 5");
    Edges.edge("8 proof: the 30th counts for kin", Edges.people(3)
        + Edges.times(29, "proof 0 1 1") + "childrenOf 0 = 2; proof 0 2 1 = 29; childrenOf 0 = 6");
    Edges.edge("8 proof: the same again has a number of its own",
        Edges.people(2) + "proof 0 1 5 = 0; proof 0 1 5 = 1");
    Edges.edge("8 proof: of the dead", Edges.people(2)
        + "death 0; death 1; close 0; close 1; proof 0 1 5 = 0; childrenOf 0 = 2");
    Edges.edge("8 proof: a third parent is filed, too",
        Edges.people(4) + "proof 0 3 5; proof 1 3 5; proof 2 3 5 = 2; childrenOf 2 = 0");
  }

  private static void proofThrows() {
    Edges.edge("8 proof: weight 0", Edges.people(2) + "proof 0 1 0 ! argument; strength 0 ! index");
    Edges.edge("8 proof: weight 10", Edges.people(2) + "proof 0 1 10 ! argument; proof 0 1 1 = 0");
    Edges.edge("8 proof: weight -1", Edges.people(2) + "proof 0 1 -1 ! argument; proof 0 1 1 = 0");
    Edges.edge("8 proof: weight the least int", Edges.people(2) + "proof 0 1 MIN ! argument");
    Edges.edge("8 proof: weight the greatest int", Edges.people(2) + "proof 0 1 MAX ! argument");
    Edges.edge("8 proof: the child was born on the same day",
        "birth 0; birth 0; proof 0 1 5 ! argument; childrenOf 0 = 0");
    Edges.edge("8 proof: the child was born a day earlier",
        Edges.people(2) + "proof 1 0 5 ! argument; childrenOf 1 = 0; parentOf 0 0 = NONE");
    Edges.edge("8 proof: its own child", Edges.people(2) + "proof 1 1 5 ! argument");
    Edges.edge("8 proof: a 31st", Edges.people(3) + THIRTY_PROOFS
        + "proof 1 2 5 ! state; strength 30 ! index; childrenOf 1 = 0");
    Edges.edge("8 proof: a 31st, the fallen keep their places", Edges.people(3) + THIRTY_PROOFS
        + Edges.each(0, 30, n -> "doubt " + n + " 1; judge " + n + " true")
        + "childrenOf 0 = 0; proof 1 2 5 ! state; strength 30 ! index");
    Edges.edge("8 proof: refused ones take no number", Edges.people(2) + """
        proof 0 2 5 ! index; proof 0 1 0 ! argument; proof 1 0 5 ! argument; proof 0 1 5 = 0
        proof 2 0 5 ! index; proof 0 1 10 ! argument; proof 0 1 5 = 1
        """);
  }

  private static void proofThrowsTheFirst() {
    Edges.edge("8 proof: no parent and weight 0, the index is first",
        Edges.people(2) + "proof 2 1 0 ! index; proof -1 1 0 ! index");
    Edges.edge("8 proof: no child and weight 10, the index is first",
        Edges.people(2) + "proof 0 2 10 ! index; proof 0 -1 10 ! index");
    Edges.edge("8 proof: neither is there, and they are the same",
        Edges.people(2) + "proof 2 2 5 ! index; proof -1 -1 5 ! index");
    Edges.edge("8 proof: weight 0 and no later child",
        Edges.people(2) + "proof 1 0 0 ! argument; proof 1 1 10 ! argument");
    Edges.edge("8 proof: no parent and a 31st, the index is first",
        Edges.people(3) + THIRTY_PROOFS + "proof 3 1 5 ! index; proof -1 1 5 ! index");
    Edges.edge("8 proof: no child and a 31st, the index is first",
        Edges.people(3) + THIRTY_PROOFS + "proof 0 3 5 ! index; proof 0 -1 5 ! index");
    Edges.edge("8 proof: weight out of range and a 31st, the argument is first",
        Edges.people(3) + THIRTY_PROOFS + "proof 0 1 0 ! argument; proof 0 1 10 ! argument");
    Edges.edge("8 proof: no later child and a 31st, the argument is first",
        Edges.people(3) + THIRTY_PROOFS + "proof 1 0 5 ! argument; proof 1 1 5 ! argument");
    Edges.edge("8 proof: no child, weight 0 and a 31st, the index is first",
        Edges.people(3) + THIRTY_PROOFS + "proof 0 3 0 ! index");
  }

  private static void doubt() {
    Edges.edge("9 doubt: weight 1, the least",
        Edges.people(2) + "proof 0 1 5; doubt 0 1 = 0; strength 0 = 4");
    Edges.edge("9 doubt: weight 9, the most",
        Edges.people(2) + "proof 0 1 9; doubt 0 9 = 0; strength 0 = 0; judge 0 false");
    Edges.edge("9 doubt: against the last of 30 proofs", Edges.people(3) + THIRTY_PROOFS
        + "doubt 29 2 = 0; strength 29 = 3; strength 28 = 5");
    Edges.edge("9 doubt: the 30th is number 29", Edges.people(3) + THIRTY_DOUBTS
        + "openDoubts = 30; judge 29 false = 0; openDoubts = 29");
    Edges.edge("9 doubt: the 30th counts",
        Edges.people(2) + "proof 0 1 1; proof 0 1 9\n" + Edges.times(29, "doubt 0 1")
            + "strength 1 = 9; doubt 1 8 = 29; strength 1 = 1");
    Edges.edge("9 doubt: against a proof that does not stand, but has not fallen", Edges.people(2)
        + "proof 0 1 5; doubt 0 5; strength 0 = 0; doubt 0 1 = 1; openDoubts = 2");
    Edges.edge("9 doubt: against a proof whose doubts were not upheld",
        Edges.people(2) + "proof 0 1 5; doubt 0 5; judge 0 false; doubt 0 5 = 1; strength 0 = 0");
    Edges.edge("9 doubt: against a proof that tells no parent, as the third",
        Edges.people(4) + "proof 0 3 5; proof 1 3 5; proof 2 3 4; doubt 2 1 = 0; strength 2 = 3");
  }

  private static void doubtThrows() {
    Edges.edge("9 doubt: weight 0",
        Edges.people(2) + "proof 0 1 5; doubt 0 0 ! argument; openDoubts = 0");
    Edges.edge("9 doubt: weight 10",
        Edges.people(2) + "proof 0 1 5; doubt 0 10 ! argument; strength 0 = 5");
    Edges.edge("9 doubt: weight -1",
        Edges.people(2) + "proof 0 1 5; doubt 0 -1 ! argument; strength 0 = 5");
    Edges.edge("9 doubt: weight the least int",
        Edges.people(2) + "proof 0 1 5; doubt 0 MIN ! argument; strength 0 = 5");
    Edges.edge("9 doubt: weight the greatest int",
        Edges.people(2) + "proof 0 1 5; doubt 0 MAX ! argument; strength 0 = 5");
    Edges.edge("9 doubt: no proof is there", "doubt 0 1 ! index; openDoubts = 0");
    Edges.edge("9 doubt: the proof has fallen", Edges.people(2)
        + "proof 0 1 5; doubt 0 1; judge 0 true; doubt 0 1 ! state; openDoubts = 0");
    Edges.edge("9 doubt: the proof has fallen by another of its doubts", Edges.people(2)
        + "proof 0 1 5; doubt 0 1; doubt 0 1; judge 1 true; doubt 0 1 ! state; openDoubts = 0");
    Edges.edge("9 doubt: a 31st, all are open", Edges.people(3) + THIRTY_DOUBTS
        + "doubt 0 1 ! state; openDoubts = 30; strength 0 = 5; judge 30 true ! index");
    Edges.edge("9 doubt: a 31st, all are judged", Edges.people(3) + THIRTY_DOUBTS
        + Edges.each(0, 30, n -> "judge " + n + " false")
        + "openDoubts = 0; doubt 0 1 ! state; openDoubts = 0; strength 0 = 5");
    Edges.edge("9 doubt: a 31st, all are gone with their proof", Edges.people(3) + THIRTY_DOUBTS
        + "judge 7 true; openDoubts = 0; doubt 0 1 ! state; openDoubts = 0; strength 0 = 5");
    Edges.edge("9 doubt: refused ones take no number", Edges.people(2) + """
        proof 0 1 5; doubt 1 1 ! index; doubt 0 0 ! argument; doubt 0 1 = 0
        proof 0 1 5; doubt 1 1; judge 1 true; doubt 1 1 ! state; doubt 0 10 ! argument
        doubt 0 1 = 2
        """);
  }

  private static void doubtThrowsTheFirst() {
    String fallen = "proof 0 1 5; proof 0 2 9; doubt 1 1; judge 0 true\n";
    String both = THIRTY_DOUBTS + "judge 0 true\n";
    Edges.edge("9 doubt: no proof and weight 0, the index is first", Edges.people(2)
        + "proof 0 1 5; doubt 1 0 ! index; doubt -1 10 ! index");
    Edges.edge("9 doubt: no proof and a 31st, the index is first",
        Edges.people(3) + THIRTY_DOUBTS + "doubt 2 1 ! index; doubt -1 1 ! index");
    Edges.edge("9 doubt: weight out of range and fallen, the argument is first",
        Edges.people(3) + fallen + "doubt 1 0 ! argument; doubt 1 10 ! argument");
    Edges.edge("9 doubt: weight out of range and a 31st, the argument is first",
        Edges.people(3) + THIRTY_DOUBTS + "doubt 0 0 ! argument; doubt 0 10 ! argument");
    Edges.edge("9 doubt: fallen and a 31st",
        Edges.people(3) + both + "doubt 1 1 ! state; openDoubts = 0");
    Edges.edge("9 doubt: weight 0, fallen and a 31st, the argument is first",
        Edges.people(3) + both + "doubt 1 0 ! argument");
    Edges.edge("9 doubt: no proof, weight 0 and a 31st, the index is first",
        Edges.people(3) + both + "doubt 2 0 ! index");
  }

  private static void judge() {
    Edges.edge("10 judge: not upheld, the proof has its strength back", Edges.people(2)
        + "proof 0 1 5; doubt 0 2; strength 0 = 3; judge 0 false = 0; strength 0 = 5");
    Edges.edge("10 judge: not upheld, the other doubts are open yet", Edges.people(2)
        + "proof 0 1 5; doubt 0 2; doubt 0 1; judge 0 false; openDoubts = 1; strength 0 = 4");
    Edges.edge("10 judge: not upheld, the proof stands again",
        Edges.people(2) + "proof 0 1 5; doubt 0 5; childrenOf 0 = 0; judge 0 false = 0\n"
            + "childrenOf 0 = 2; parentOf 1 0 = 0");
    Edges.edge("10 judge: upheld, the proof falls", Edges.people(2)
        + "proof 0 1 5; doubt 0 1; judge 0 true = 0; strength 0 = 0; childrenOf 0 = 0");
    Edges.edge("10 judge: upheld, earlier and later doubts are gone", Edges.people(2) + """
        proof 0 1 9; doubt 0 1; doubt 0 1; doubt 0 1; judge 1 true; openDoubts = 0
        """);
    Edges.edge("10 judge: upheld, doubts against other proofs are open yet",
        Edges.people(3) + "proof 0 1 9; proof 0 2 9; doubt 0 1; doubt 1 1; judge 0 true\n"
            + "openDoubts = 1; strength 1 = 8; judge 1 false = 0");
    Edges.edge("10 judge: upheld, another proof of the same stands", Edges.people(2)
        + "proof 0 1 5; proof 0 1 3; doubt 0 1; judge 0 true; childrenOf 0 = 2; strength 1 = 3");
    Edges.edge("10 judge: the proof falls for ever, a new one is another", Edges.people(2)
        + "proof 0 1 5; doubt 0 1; judge 0 true; proof 0 1 2 = 1; strength 0 = 0; strength 1 = 2");
    Edges.edge("10 judge: upheld against a proof that did not stand",
        Edges.people(2) + "proof 0 1 5; doubt 0 9; judge 0 true = 0; strength 0 = 0");
    Edges.edge("10 judge: the first and the last of 30 doubts",
        Edges.people(3) + THIRTY_DOUBTS + "judge 0 false = 0; judge 29 true = 0; openDoubts = 0");
  }

  private static void judgeAndLand() {
    String land = Edges.people(3) + "grant 0 0 60; proof 0 1 5; death 0\n";
    Edges.edge("10 judge: units of an estate that is not closed stay",
        land + "doubt 0 5; judge 0 true = 0; area 0 = 60");
    Edges.edge("10 judge: 60 units to nobody, the most",
        land + "close 0; doubt 0 1; judge 0 true = 60; area 1 = 0; parcels = 0");
    Edges.edge("10 judge: 60 units not to nobody any more",
        land + "close 0; doubt 0 5; area 1 = 0; judge 0 false = 60; area 1 = 60");
    Edges.edge("10 judge: 60 units to another person", land
        + "proof 0 2 9; close 0; doubt 0 5; doubt 1 9; judge 0 false; area 1 = 60\n"
        + "proof 0 2 9; doubt 0 4; area 1 = 30; area 2 = 30; judge 2 true = 30; area 2 = 60");
    Edges.edge("10 judge: one unit, the fewest", Edges.people(3) + """
        grant 0 59 60; proof 0 1 5; death 0; close 0; doubt 0 1; judge 0 true = 1
        """ + Edges.owners(59, -1));
    Edges.edge("10 judge: no unit, the doubt had taken them before",
        land + "close 0; doubt 0 5; area 1 = 0; judge 0 true = 0");
    Edges.edge("10 judge: no unit, the proof stood all the time",
        land + "close 0; doubt 0 4; judge 0 false = 0; area 1 = 60");
    Edges.edge("10 judge: no unit, they come to the same by another estate", Edges.people(3) + """
        grant 0 0 4; proof 0 1 5; proof 1 2 5; proof 0 2 5; death 0; close 0; death 1; close 1
        area 2 = 4; doubt 0 1; judge 0 true = 0; area 2 = 4; reopenings 0 = 1
        """);
    Edges.edge("10 judge: only the units that change are counted", Edges.people(4) + """
        grant 0 0 6; proof 0 1 5; proof 0 2 5; proof 0 3 5; death 0; close 0
        """ + Edges.owners(0, 1, 1, 2, 2, 3, 3)
        + "doubt 2 1; judge 0 true = 3\n" + Edges.owners(0, 1, 1, 1, 2, 2, 2));
  }

  private static void judgeThrows() {
    Edges.edge("10 judge: no doubt is there", "judge 0 true ! index; judge 0 false ! index");
    Edges.edge("10 judge: judged before, not upheld", Edges.people(2)
        + "proof 0 1 5; doubt 0 1; judge 0 false; judge 0 true ! state; strength 0 = 5");
    Edges.edge("10 judge: judged before, not upheld, and not upheld again",
        Edges.people(2) + "proof 0 1 5; doubt 0 1; judge 0 false; judge 0 false ! state");
    Edges.edge("10 judge: judged before, upheld", Edges.people(2)
        + "proof 0 1 5; doubt 0 1; judge 0 true; judge 0 false ! state; strength 0 = 0");
    Edges.edge("10 judge: gone with the proof", Edges.people(2)
        + "proof 0 1 5; doubt 0 1; doubt 0 1; judge 0 true; judge 1 false ! state\n"
        + "judge 1 true ! state; strength 0 = 0");
    Edges.edge("10 judge: gone with the proof, the first by the last",
        Edges.people(3) + THIRTY_DOUBTS + "judge 29 true; judge 0 false ! state; strength 1 = 0");
    Edges.edge("10 judge: refused, a doubt that was lifted is not lifted twice", Edges.people(2)
        + "proof 0 1 9; doubt 0 2; doubt 0 3; judge 0 false; judge 0 false ! state\n"
        + "strength 0 = 6; judge 1 false; strength 0 = 9");
    Edges.edge("10 judge: refused, no land moves", Edges.people(3)
        + "grant 0 0 4; proof 0 1 5; death 0; close 0; doubt 0 1; judge 0 false\n"
        + "judge 0 true ! state; judge 1 true ! index; area 1 = 4; reopenings 0 = 0");
  }

  private static void strength() {
    String proof = Edges.people(2) + "proof 0 1 5\n";
    Edges.edge("11 strength: the weight, without doubts", proof + "strength 0 = 5");
    Edges.edge("11 strength: 1, the least that stands",
        proof + "doubt 0 4; strength 0 = 1; childrenOf 0 = 2");
    Edges.edge("11 strength: just 0, does not stand",
        proof + "doubt 0 5; strength 0 = 0; childrenOf 0 = 0");
    Edges.edge("11 strength: 0 at least", proof + "doubt 0 6; strength 0 = 0; childrenOf 0 = 0");
    Edges.edge("11 strength: 0 by several doubts", proof
        + "doubt 0 2; doubt 0 2; strength 0 = 1; doubt 0 1; strength 0 = 0; judge 1 false\n"
        + "strength 0 = 2");
    Edges.edge("11 strength: 0 at least, by 30 doubts of weight 9",
        proof + Edges.times(30, "doubt 0 9; strength 0 = 0")
            + Edges.each(0, 29, n -> "judge " + n + " false; strength 0 = 0")
            + "judge 29 false; strength 0 = 5");
    Edges.edge("11 strength: below 0 is not forgotten", proof
        + "doubt 0 9; doubt 0 1; judge 1 false; strength 0 = 0; judge 0 false; strength 0 = 5");
    Edges.edge("11 strength: 0 if it has fallen",
        proof + "doubt 0 1; judge 0 true; strength 0 = 0");
    Edges.edge("11 strength: 0 if it has fallen, with all its doubts gone",
        proof + "doubt 0 1; doubt 0 2; judge 1 true; openDoubts = 0; strength 0 = 0");
    Edges.edge("11 strength: doubts against another proof do not count",
        proof + "proof 0 1 7; doubt 1 3; strength 0 = 5; strength 1 = 4");
    Edges.edge("11 strength: the first and the last of 30", Edges.people(3)
        + Edges.times(29, "proof 0 1 3") + "proof 0 2 9; strength 0 = 3; strength 29 = 9");
    Edges.edge("11 strength: no proof is there", "strength 0 ! index; strength -1 ! index");
  }

  private static void openDoubts() {
    Edges.edge("12 openDoubts: 0 at first", Edges.people(2) + "proof 0 1 5; openDoubts = 0");
    Edges.edge("12 openDoubts: 1", Edges.people(2) + "proof 0 1 5; doubt 0 1; openDoubts = 1");
    Edges.edge("12 openDoubts: 30, the most", Edges.people(3) + THIRTY_DOUBTS + "openDoubts = 30");
    Edges.edge("12 openDoubts: 30, judged one by one", Edges.people(3) + THIRTY_DOUBTS
        + Edges.each(0, 30, n -> "judge " + n + " false; openDoubts = " + (29 - n)));
    Edges.edge("12 openDoubts: 30 gone at once",
        Edges.people(3) + THIRTY_DOUBTS + "judge 15 true; openDoubts = 0");
    Edges.edge("12 openDoubts: those against what does not stand with them",
        Edges.people(2) + "proof 0 1 1; doubt 0 1; doubt 0 1; openDoubts = 2");
  }

  private static void parentOf() {
    Edges.edge("13 parentOf: place 0, there is none", Edges.people(2) + "parentOf 1 0 = NONE");
    Edges.edge("13 parentOf: place 1, there is none", Edges.people(2) + "parentOf 1 1 = NONE");
    Edges.edge("13 parentOf: place 1, there is one only",
        Edges.people(2) + "proof 0 1 5; parentOf 1 0 = 0; parentOf 1 1 = NONE");
    Edges.edge("13 parentOf: several proofs of one are one parent", Edges.people(2)
        + "proof 0 1 5; proof 0 1 4; proof 0 1 5; parentOf 1 0 = 0; parentOf 1 1 = NONE");
    Edges.edge("13 parentOf: the greater one first",
        Edges.people(3) + "proof 0 2 4; proof 1 2 5; parentOf 2 0 = 1; parentOf 2 1 = 0");
    Edges.edge("13 parentOf: a third with a smaller strength is none", Edges.people(4)
        + "proof 0 3 4; proof 1 3 5; proof 2 3 6; parentOf 3 0 = 2; parentOf 3 1 = 1");
    Edges.edge("13 parentOf: by the strongest proof, not the last", Edges.people(4)
        + "proof 2 3 9; proof 2 3 1; proof 0 3 8; proof 1 3 8; parentOf 3 0 = 2");
    Edges.edge("13 parentOf: strengths of one are not added", Edges.people(4)
        + "proof 2 3 4; proof 2 3 4; proof 0 3 5; proof 1 3 5; parentOf 3 0 = 0\n"
        + "parentOf 3 1 = 1; childrenOf 2 = 0");
    Edges.edge("13 parentOf: by the strength, not the weight", Edges.people(3)
        + "proof 0 2 9; proof 1 2 5; doubt 0 5; parentOf 2 0 = 1; parentOf 2 1 = 0");
    Edges.edge("13 parentOf: a strength of 1 is enough",
        Edges.people(2) + "proof 0 1 9; doubt 0 8; parentOf 1 0 = 0");
    Edges.edge("13 parentOf: a strength of 0 is not",
        Edges.people(2) + "proof 0 1 9; doubt 0 9; parentOf 1 0 = NONE");
    Edges.edge("13 parentOf: the third moves up when one falls", Edges.people(4)
        + "proof 0 3 5; proof 1 3 4; proof 2 3 3; doubt 0 1; judge 0 true\n"
        + "parentOf 3 0 = 1; parentOf 3 1 = 2");
    Edges.edge("13 parentOf: the dead are parents, too",
        Edges.people(2) + "death 0; death 1; proof 0 1 1; parentOf 1 0 = 0");
    Edges.edge("13 parentOf: the persons 12 and 13", "pass 9\n" + Edges.times(12, "birth 5")
        + "birth 3; birth 3; proof 13 0 5; proof 12 0 5; parentOf 0 0 = 12; parentOf 0 1 = 13");
  }

  private static void parentOfTheEqual() {
    Edges.edge("13 parentOf: of two equals the lower is ahead",
        Edges.people(3) + "proof 1 2 5; proof 0 2 5; parentOf 2 0 = 0; parentOf 2 1 = 1");
    Edges.edge("13 parentOf: of three equals the two lower ones", Edges.people(4)
        + "proof 2 3 5; proof 1 3 5; proof 0 3 5; parentOf 3 0 = 0; parentOf 3 1 = 1");
    Edges.edge("13 parentOf: of two equals behind the greatest the lower one", Edges.people(4)
        + "proof 2 3 6; proof 1 3 5; proof 0 3 5; parentOf 3 0 = 2; parentOf 3 1 = 0");
    Edges.edge("13 parentOf: equal by a doubt",
        Edges.people(3) + "proof 1 2 6; proof 0 2 5; parentOf 2 0 = 1; doubt 0 1\n"
            + "parentOf 2 0 = 0; parentOf 2 1 = 1");
    Edges.edge("13 parentOf: of 13 equals the two lowest", Edges.people(14)
        + Edges.each(0, 13, p -> "proof " + (12 - p) + " 13 1")
        + "parentOf 13 0 = 0; parentOf 13 1 = 1");
  }

  private static void parentOfThrows() {
    String kin = Edges.people(3) + "proof 0 2 5; proof 1 2 4\n";
    Edges.edge("13 parentOf: place -1", kin + "parentOf 2 -1 ! argument");
    Edges.edge("13 parentOf: place 2", kin + "parentOf 2 2 ! argument");
    Edges.edge("13 parentOf: place the least int", kin + "parentOf 2 MIN ! argument");
    Edges.edge("13 parentOf: place the greatest int", kin + "parentOf 2 MAX ! argument");
    Edges.edge("13 parentOf: no person and place -1, the index is first",
        kin + "parentOf 3 -1 ! index; parentOf -1 -1 ! index");
    Edges.edge("13 parentOf: no person and place 2, the index is first",
        kin + "parentOf 3 2 ! index; parentOf -1 2 ! index");
    Edges.edge("13 parentOf: nobody is there", "parentOf 0 0 ! index; parentOf 0 2 ! index");
  }

  private static void childrenOf() {
    Edges.edge("14 childrenOf: none", Edges.people(1) + "childrenOf 0 = 0");
    Edges.edge("14 childrenOf: the person 0 is bit 0",
        "pass 9; birth 9; birth 0; proof 1 0 5; childrenOf 1 = 1");
    Edges.edge("14 childrenOf: the person 13 is bit 13",
        Edges.people(14) + "proof 0 13 5; childrenOf 0 = 8192");
    Edges.edge("14 childrenOf: 13, the most", Edges.people(14)
        + Edges.each(1, 14, p -> "proof 0 " + p + " 1") + "childrenOf 0 = 16382");
    Edges.edge("14 childrenOf: as the second parent, too",
        Edges.people(3) + "proof 0 2 5; proof 1 2 1; childrenOf 0 = 4; childrenOf 1 = 4");
    Edges.edge("14 childrenOf: not as the third parent",
        Edges.people(4) + "proof 0 3 5; proof 1 3 5; proof 2 3 5; childrenOf 2 = 0");
    Edges.edge("14 childrenOf: grandchildren are not among them", Edges.people(3)
        + "proof 0 1 5; proof 1 2 5; childrenOf 0 = 2; childrenOf 1 = 4; childrenOf 2 = 0");
    Edges.edge("14 childrenOf: the dead are among them",
        Edges.people(2) + "proof 0 1 5; death 1; close 1; childrenOf 0 = 2");
    Edges.edge("14 childrenOf: nobody is there", "childrenOf 0 ! index; childrenOf -1 ! index");
  }
}
