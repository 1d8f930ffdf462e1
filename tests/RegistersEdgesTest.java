/** Every call on an empty register, and on one that is full in every way at once. */
public final class RegistersEdgesTest {
  /**
   * The last day, 14 people, 30 proofs, 30 open doubts, 60 handings, all land granted, and all 13
   * living have filed a claim to the estate of the person 0, whose children they are.
   */
  private static final String FULL = Edges.times(19, "pass 100") + Edges.people(14)
      + Edges.each(1, 14, p -> "proof 0 " + p + " 5")
      + Edges.each(2, 14, p -> "proof 1 " + p + " 4")
      + Edges.each(3, 8, p -> "proof 2 " + p + " 3") + Edges.each(0, 30, n -> "doubt " + n + " 1")
      + "grant 0 0 60\n" + Edges.times(30, "hand 0 1 0 60; hand 1 0 0 60") + "death 0\n"
      + Edges.each(1, 14, p -> "claim " + p + " 0");

  /** The promise and the call; what is due on the empty register; what is due on the full one. */
  private static final String[][] CALLS = {
    {"2 pass", "pass 1 = 1", "pass 1 ! state"},
    {"3 today", "today = 0", "today = 2000"},
    {"4 birth", "birth 0 = 0", "birth 0 ! state"},
    {"5 death", "death 0 ! index", "death 0 ! state; death 13 = 1; death 14 ! index"},
    {"6 people", "people = 0", "people = 14"},
    {"7 isAlive", "isAlive 0 ! index", "isAlive 0 = false; isAlive 13 = true; isAlive 14 ! index"},
    {"8 proof", "proof 0 1 5 ! index", "proof 1 2 5 ! state; proof 0 14 5 ! index"},
    {"9 doubt", "doubt 0 1 ! index", "doubt 29 1 ! state; doubt 30 1 ! index"},
    {"10 judge", "judge 0 true ! index", "judge 29 true = 0; judge 30 true ! index"},
    {"11 strength", "strength 0 ! index", "strength 29 = 2; strength 30 ! index"},
    {"12 openDoubts", "openDoubts = 0", "openDoubts = 30"},
    {"13 parentOf", "parentOf 0 0 ! index", "parentOf 13 0 = 0; parentOf 13 1 = 1"},
    {"14 childrenOf", "childrenOf 0 ! index", "childrenOf 0 = 16382; childrenOf 1 = 16380"},
    {"15 will", "will 0 1 1 ! index", "will 13 12 1 = 0; will 0 13 1 ! state"},
    {"16 claim", "claim 0 1 ! index", "claim 13 0 ! state; claim 14 0 ! index"},
    {"17 claims", "claims 0 ! index", "claims 0 = 13; claims 13 = 0"},
    {"18 close", "close 0 ! index", "close 0 = 13; close 13 ! state"},
    {"19 isClosed", "isClosed 0 ! index", "isClosed 0 = false; isClosed 13 = false"},
    {"20 shareAbove", "shareAbove 0 0 ! index", "shareAbove 13 0 = 1; shareAbove 0 13 ! state"},
    {"21 shareBelow", "shareBelow 0 0 ! index", "shareBelow 13 0 = 13; shareBelow 0 13 ! state"},
    {"22 shareAboveByWays", "shareAboveByWays 0 0 ! index",
        "shareAboveByWays 13 0 = 1; shareAboveByWays 0 13 ! state"},
    {"23 heirs", "heirs 0 ! index", "heirs 0 = 13; heirs 13 ! state"},
    {"24 disputes", "disputes 0 ! index", "disputes 0 = 13; disputes 13 ! state"},
    {"25 reopenings", "reopenings 0 ! index", "reopenings 0 = 0; close 0; judge 0 true = 50\n"
        + "reopenings 0 = 1"},
    {"26 grant", "grant 0 0 60 ! index", "grant 1 59 60 ! state; grant 14 59 60 ! index"},
    {"27 hand", "hand 0 1 0 60 ! index", "close 0; hand 1 2 0 60 ! state; hand 1 14 0 60 ! index"},
    {"28 owner", "owner 0 = NONE; owner 59 = NONE", "owner 0 = 0; owner 59 = 0"},
    {"29 ownerAnew", "ownerAnew 0 = NONE; ownerAnew 59 = NONE",
        "ownerAnew 0 = 0; close 0; ownerAnew 0 = 1; ownerAnew 59 = 13"},
    {"30 area", "area 0 ! index", "area 0 = 60; close 0; area 0 = 0; area 1 = 5; area 13 = 4"},
    {"31 parcels", "parcels = 0", "parcels = 1; close 0; parcels = 13"},
    {"32 parcelAt", "parcelAt 0 ! element", "parcelAt 59 = 60; close 0; parcelAt 59 = 5604"},
  };

  public static void main(String[] args) {
    Check.due("calls", CALLS.length, 31);
    for (String[] call : CALLS) {
      Edges.edge(call[0] + ": on the empty register", call[1]);
      Edges.edge(call[0] + ": on the full register", FULL + call[2]);
    }
    twoObjects();
    Edges.finish(2, 32);
  }

  /** A register that is filled call by call beside an empty one leaves that one empty. */
  private static void twoObjects() {
    Player full = new Player();
    Player empty = new Player();
    for (Row row : Row.read(FULL)) {
      full.play(row.call, row.numbers);
      empty.play("people");
    }
    empty.forgetStory();
    Player alone = new Player();
    Later.play(1, empty);
    Later.play(1, alone);
    Check.same("1 Treeclerk: beside a full register", empty.story(), alone.story());
    full.forgetStory();
    Check.same("1 Treeclerk: a full register beside an empty one", full.play("people"), "14");
  }
}
