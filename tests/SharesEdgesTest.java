/** The edges of promises 20 to 25: shares by kin and by will, disputes and reopenings. */
public final class SharesEdgesTest {
  /** Thirteen children of the person 0. */
  private static final String CHILDREN =
      Edges.people(14) + Edges.each(1, 14, p -> "proof 0 " + p + " 5");
  /** Each is the only child of the one before. */
  private static final String LINE =
      Edges.people(14) + Edges.each(1, 14, p -> "proof " + (p - 1) + " " + p + " 5");

  public static void main(String[] args) {
    lowestTerms();
    whoCounts();
    whoWasAlive();
    lines();
    heads();
    severalWays();
    wills();
    theLongestWays();
    sharesThrow();
    heirs();
    disputes();
    disputesThrow();
    reopenings();
    notReopened();
    Edges.finish(20, 25);
  }

  private static void lowestTerms() {
    Edges.edge("20 shareAbove: 0 for who is no heir",
        Edges.people(3) + "proof 0 1 5; death 0; shareAbove 2 0 = 0");
    Edges.edge("21 shareBelow: 1 for who is no heir",
        Edges.people(3) + "proof 0 1 5; death 0; shareBelow 2 0 = 1");
    Edges.edge("22 shareAboveByWays: 0 for who is no heir",
        Edges.people(3) + "proof 0 1 5; death 0; shareAboveByWays 2 0 = 0");
    Edges.edge("20 shareAbove: of the dead itself", Edges.people(2)
        + "proof 0 1 5; death 0\n" + Edges.share(0, 0, 0, 1));
    Edges.edge("20 shareAbove: no heirs at all", Edges.people(2) + "death 0\n"
        + Edges.share(0, 0, 0, 1) + Edges.share(1, 0, 0, 1));
    Edges.edge("20 shareAbove: all of it is 1 of 1",
        Edges.people(2) + "proof 0 1 5; death 0\n" + Edges.share(1, 0, 1, 1));
    Edges.edge("20 shareAbove: a thirteenth", CHILDREN + "death 0\n"
        + Edges.share(1, 0, 1, 13) + Edges.share(13, 0, 1, 13));
    Edges.edge("20 shareAbove: in lowest terms, by will", Edges.people(4)
        + "will 0 1 6; will 0 2 3; will 0 3 9; death 0\n" + Edges.share(1, 0, 1, 3)
        + Edges.share(2, 0, 1, 6) + Edges.share(3, 0, 1, 2));
    Edges.edge("20 shareAbove: in lowest terms, all of it by will",
        Edges.people(2) + "will 0 1 9; death 0\n" + Edges.share(1, 0, 1, 1));
    Edges.edge("20 shareAbove: in lowest terms, by will and kin", Edges.people(3)
        + "will 0 1 1; will 0 2 3; proof 0 1 5; proof 0 2 5; death 0\n"
        + Edges.share(1, 0, 3, 8) + Edges.share(2, 0, 5, 8));
    Edges.edge("20 shareAbove: in lowest terms, on two ways", Edges.people(4)
        + "proof 0 1 5; proof 0 2 5; proof 1 3 5; proof 2 3 5; death 0; death 1; death 2\n"
        + Edges.share(3, 0, 1, 1));
  }

  private static void whoCounts() {
    String dead = "pass 50; birth 0; death 0; pass 50\n";
    Edges.edge("20 shareAbove: born on the day of the death", dead
        + "birth 50; proof 0 1 5\n" + Edges.share(1, 0, 1, 1));
    Edges.edge("20 shareAbove: born a day behind the death", dead
        + "birth 51; proof 0 1 5\n" + Edges.share(1, 0, 0, 1));
    Edges.edge("20 shareAbove: born a day before the death, registered behind it", dead
        + "birth 49; proof 0 1 5\n" + Edges.share(1, 0, 1, 1));
    Edges.edge("20 shareAbove: a grandchild born on the day of the death", dead
        + "birth 20; birth 50; proof 0 1 5; proof 1 2 5; death 1\n" + Edges.share(2, 0, 1, 1));
    Edges.edge("20 shareAbove: a grandchild born a day behind the death", dead
        + "birth 20; birth 51; proof 0 1 5; proof 1 2 5; death 1\n" + Edges.share(2, 0, 0, 1)
        + "heirs 0 = 0");
    Edges.edge("20 shareAbove: who does not count takes nothing away", dead
        + "birth 20; birth 51; proof 0 1 5; proof 0 2 5\n" + Edges.share(1, 0, 1, 1)
        + Edges.share(2, 0, 0, 1));
    Edges.edge("20 shareAbove: who does not count makes no line, so the parents are heads", """
        pass 50; birth 0; birth 10; proof 0 1 5; death 1; pass 50; birth 51; proof 1 2 5
        """ + Edges.share(0, 1, 1, 1) + Edges.share(2, 1, 0, 1));
    Edges.edge("20 shareAbove: by the day of that death, not of the closing", dead
        + "birth 51; proof 0 1 5; close 0 = 0\n" + Edges.share(1, 0, 0, 1));
    Edges.edge("20 shareAbove: each estate has a day of its own", """
        pass 50; birth 0; birth 0; death 0; pass 1; death 1; pass 9; birth 51
        proof 0 2 5; proof 1 2 5
        """ + Edges.share(2, 0, 0, 1) + Edges.share(2, 1, 1, 1));
    Edges.edge("20 shareAbove: by will it need not count, but it was there before", """
        birth 0; birth 0; will 0 1 1; death 0; pass 1
        """ + Edges.share(1, 0, 1, 1));
  }

  private static void whoWasAlive() {
    String closed = Edges.people(4) + "proof 0 1 5; proof 0 2 5; proof 1 3 5; death 0\n";
    Edges.edge("20 shareAbove: died before the closing, on the same day", closed
        + "death 1; close 0\n" + Edges.share(1, 0, 0, 1) + Edges.share(3, 0, 1, 2));
    Edges.edge("20 shareAbove: died behind the closing, on the same day", closed
        + "close 0; death 1\n" + Edges.share(1, 0, 1, 2) + Edges.share(3, 0, 0, 1));
    Edges.edge("20 shareAbove: not closed, by who is alive now", closed
        + Edges.share(1, 0, 1, 2) + "death 1\n" + Edges.share(1, 0, 0, 1)
        + Edges.share(3, 0, 1, 2) + "death 3\n" + Edges.share(2, 0, 1, 1));
    Edges.edge("20 shareAbove: registered behind the closing, and dead since", closed
        + "close 0; birth 50; death 4; proof 0 4 5\n" + Edges.share(4, 0, 1, 3));
    Edges.edge("20 shareAbove: registered before the closing, and dead then", closed
        + "birth 50; death 4; close 0; proof 0 4 5\n" + Edges.share(4, 0, 0, 1)
        + Edges.share(1, 0, 1, 2));
    Edges.edge("20 shareAbove: alive at one closing, dead at the next", Edges.people(3)
        + "proof 0 2 5; proof 1 2 5; death 0; death 1; close 0; death 2; close 1\n"
        + Edges.share(2, 0, 1, 1) + Edges.share(2, 1, 0, 1));
    Edges.edge("20 shareAbove: alive at the closing, nothing goes on to its children", closed
        + "close 0; death 1; death 2; doubt 1 5\n" + Edges.share(1, 0, 1, 1)
        + Edges.share(3, 0, 0, 1));
    Edges.edge("20 shareAbove: a head that was alive at the closing", Edges.people(2)
        + "proof 0 1 5; death 1; close 1; death 0\n" + Edges.share(0, 1, 1, 1));
    Edges.edge("20 shareAbove: by will, died before the closing", Edges.people(3)
        + "will 0 1 5; will 0 2 5; death 0; death 1; close 0\n" + Edges.share(2, 0, 1, 1)
        + Edges.share(1, 0, 0, 1));
    Edges.edge("20 shareAbove: by will, died behind the closing", Edges.people(3)
        + "will 0 1 5; will 0 2 5; death 0; close 0; death 1\n" + Edges.share(2, 0, 1, 2)
        + Edges.share(1, 0, 1, 2));
  }

  private static void lines() {
    Edges.edge("20 shareAbove: a line is living by a grandchild alone", Edges.people(4)
        + "proof 0 1 5; proof 1 2 5; proof 2 3 5; death 1; death 2; death 0\n"
        + Edges.share(3, 0, 1, 1));
    Edges.edge("20 shareAbove: a child that was registered before its parent", """
        pass 9; birth 5; birth 0; proof 1 0 5; death 1
        """ + Edges.share(0, 1, 1, 1));
    Edges.edge("20 shareAbove: registered from the grandchild on", """
        pass 9; birth 5; birth 3; birth 0; proof 2 1 5; proof 1 0 5; death 1; death 2
        """ + Edges.share(0, 2, 1, 1));
    Edges.edge("20 shareAbove: registered in no order of age", """
        pass 99; birth 50; birth 10; birth 30; birth 70; birth 20; birth 60; birth 40
        proof 1 4 5; proof 4 2 5; proof 2 6 5; proof 6 0 5; proof 0 5 5; proof 5 3 5
        death 1; death 4; death 2; death 6; death 0; death 5
        """ + Edges.share(3, 1, 1, 1) + Edges.share(3, 2, 1, 1) + Edges.share(3, 0, 1, 1));
    Edges.edge("20 shareAbove: a line that ended gets nothing", Edges.people(5)
        + "proof 0 1 5; proof 0 2 5; proof 1 3 5; death 1; death 3; death 0\n"
        + Edges.share(2, 0, 1, 1));
    Edges.edge("20 shareAbove: the same to each child, not to each grandchild", Edges.people(6)
        + "proof 0 1 5; proof 0 2 5; proof 1 3 5; proof 1 4 5; proof 2 5 5\n"
        + "death 0; death 1; death 2\n" + Edges.share(3, 0, 1, 4) + Edges.share(4, 0, 1, 4)
        + Edges.share(5, 0, 1, 2));
    Edges.edge("20 shareAbove: a proof that does not stand makes no line", Edges.people(3)
        + "proof 0 1 5; proof 0 2 5; doubt 0 5; death 0\n" + Edges.share(1, 0, 0, 1)
        + Edges.share(2, 0, 1, 1));
    Edges.edge("20 shareAbove: a third parent has no line by that child", Edges.people(4)
        + "proof 0 3 5; proof 1 3 5; proof 2 3 5; death 2\n" + Edges.share(3, 2, 0, 1));
    Edges.edge("20 shareAbove: children of the living wait",
        Edges.people(3) + "proof 0 1 5; proof 1 2 5; death 0\n" + Edges.share(1, 0, 1, 1)
            + Edges.share(2, 0, 0, 1));
    Edges.edge("20 shareAbove: a child of the dead and of its living child", Edges.people(3)
        + "proof 0 1 5; proof 0 2 5; proof 1 2 5; death 0\n" + Edges.share(1, 0, 1, 2)
        + Edges.share(2, 0, 1, 2));
    Edges.edge("20 shareAbove: a child of the dead and of its dead child", Edges.people(3)
        + "proof 0 1 5; proof 0 2 5; proof 1 2 5; death 0; death 1\n"
        + Edges.share(2, 0, 1, 1));
  }

  private static void heads() {
    // 0 to 3 are the parents of 4 and 5, who are those of 6; 7 is a child of 6.
    String kin = Edges.people(8) + """
        proof 0 4 5; proof 1 4 5; proof 2 5 5; proof 3 5 5; proof 4 6 5; proof 5 6 5; proof 6 7 5
        """;
    Edges.edge("20 shareAbove: the dead person alone is the head while its line is living",
        kin + "death 6\n" + Edges.share(7, 6, 1, 1) + "heirs 6 = 1");
    Edges.edge("20 shareAbove: its parents, if its line is not living",
        kin + "death 6; death 7\n" + Edges.share(4, 6, 1, 2) + Edges.share(5, 6, 1, 2)
            + Edges.share(0, 6, 0, 1));
    Edges.edge("20 shareAbove: one parent's line is living",
        kin + "death 6; death 7; death 4\n" + Edges.share(5, 6, 1, 1) + "heirs 6 = 1");
    Edges.edge("20 shareAbove: the parents of its parents",
        kin + "death 6; death 7; death 4; death 5; heirs 6 = 4\n" + Edges.share(0, 6, 1, 4)
            + Edges.share(3, 6, 1, 4));
    Edges.edge("20 shareAbove: one of the parents of its parents is left",
        kin + "death 6; death 7; death 4; death 5; death 0; death 1; death 3\n"
            + Edges.share(2, 6, 1, 1) + "heirs 6 = 1");
    Edges.edge("20 shareAbove: nobody above the parents of its parents", Edges.people(4)
        + "proof 0 1 5; proof 1 2 5; proof 2 3 5; death 1; death 2; death 3; heirs 3 = 0\n"
        + Edges.share(0, 3, 0, 1));
    Edges.edge("20 shareAbove: no parents are told", Edges.people(2) + "death 1; heirs 1 = 0");
    Edges.edge("20 shareAbove: only one parent is told",
        Edges.people(2) + "proof 0 1 5; death 1\n" + Edges.share(0, 1, 1, 1));
    Edges.edge("20 shareAbove: one parent of one parent is told", Edges.people(3)
        + "proof 0 1 5; proof 1 2 5; death 1; death 2\n" + Edges.share(0, 2, 1, 1));
    Edges.edge("20 shareAbove: a parent of both parents is one head", Edges.people(5)
        + "proof 0 2 5; proof 0 3 5; proof 1 3 5; proof 2 4 5; proof 3 4 5\n"
        + "death 2; death 3; death 4\n" + Edges.share(0, 4, 1, 2) + Edges.share(1, 4, 1, 2));
    Edges.edge("20 shareAbove: a sister by a dead parent", Edges.people(3)
        + "proof 0 1 5; proof 0 2 5; death 0; death 1\n" + Edges.share(2, 1, 1, 1));
    Edges.edge("20 shareAbove: a cousin by a dead parent of a dead parent", Edges.people(5)
        + "proof 0 1 5; proof 0 2 5; proof 1 3 5; proof 2 4 5\n"
        + "death 0; death 1; death 2; death 3\n" + Edges.share(4, 3, 1, 1));
    Edges.edge("20 shareAbove: parents count only with a proof that stands", Edges.people(3)
        + "proof 0 2 5; proof 1 2 5; doubt 0 5; death 2\n" + Edges.share(1, 2, 1, 1)
        + Edges.share(0, 2, 0, 1));
    Edges.edge("20 shareAbove: a third parent is no head", Edges.people(4)
        + "proof 0 3 5; proof 1 3 5; proof 2 3 5; death 3\n" + Edges.share(0, 3, 1, 2)
        + Edges.share(1, 3, 1, 2) + Edges.share(2, 3, 0, 1));
    Edges.edge("20 shareAbove: a parent and the parent's child are both heads", Edges.people(3)
        + "proof 0 1 5; proof 0 2 5; proof 1 2 5; death 2\n" + Edges.share(0, 2, 1, 2)
        + Edges.share(1, 2, 1, 2) + "death 0\n" + Edges.share(1, 2, 1, 1));
  }

  private static void severalWays() {
    Edges.edge("20 shareAbove: on two ways, together", Edges.people(5)
        + "proof 0 1 5; proof 0 2 5; proof 1 3 5; proof 2 3 5; proof 2 4 5\n"
        + "death 0; death 1; death 2\n" + Edges.share(3, 0, 3, 4) + Edges.share(4, 0, 1, 4));
    Edges.edge("20 shareAbove: on ways of different lengths", Edges.people(5)
        + "proof 0 1 5; proof 1 2 5; proof 0 3 5; proof 2 3 5; proof 0 4 5\n"
        + "death 0; death 1; death 2\n" + Edges.share(3, 0, 2, 3) + Edges.share(4, 0, 1, 3));
    Edges.edge("20 shareAbove: as a head and from another head", Edges.people(4)
        + "proof 0 1 5; proof 0 2 5; proof 1 2 5; proof 0 3 5; death 0; death 2\n"
        + Edges.share(1, 2, 3, 4) + Edges.share(3, 2, 1, 4));
  }

  private static void wills() {
    Edges.edge("20 shareAbove: all weights are 0, by kin", Edges.people(3)
        + "will 0 1 0; will 0 2 0; proof 0 2 5; death 0\n" + Edges.share(2, 0, 1, 1)
        + Edges.share(1, 0, 0, 1));
    Edges.edge("20 shareAbove: weight 1 is a will", Edges.people(3)
        + "will 0 1 1; proof 0 2 5; death 0\n" + Edges.share(1, 0, 1, 2)
        + Edges.share(2, 0, 1, 2));
    Edges.edge("20 shareAbove: all heirs of the will are dead, by kin", Edges.people(4)
        + "will 0 1 9; will 0 2 9; proof 0 3 5; death 1; death 2; death 0\n"
        + Edges.share(3, 0, 1, 1));
    Edges.edge("20 shareAbove: all heirs of the will are dead, by the parents", Edges.people(3)
        + "will 1 2 9; proof 0 1 5; death 2; death 1\n" + Edges.share(0, 1, 1, 1));
    Edges.edge("20 shareAbove: a will, and its line is not living", Edges.people(3)
        + "will 1 2 9; proof 0 1 5; death 1\n" + Edges.share(2, 1, 1, 1)
        + Edges.share(0, 1, 0, 1));
    Edges.edge("20 shareAbove: a will, and no kin at all",
        Edges.people(2) + "will 0 1 1; death 0\n" + Edges.share(1, 0, 1, 1));
    Edges.edge("20 shareAbove: a will, and its line is living", Edges.people(3)
        + "will 0 1 1; will 0 2 2; proof 0 2 5; death 0\n" + Edges.share(1, 0, 1, 6)
        + Edges.share(2, 0, 5, 6));
    Edges.edge("20 shareAbove: a will, and its line is living by a grandchild", Edges.people(4)
        + "will 0 1 1; proof 0 2 5; proof 2 3 5; death 2; death 0\n" + Edges.share(1, 0, 1, 2)
        + Edges.share(3, 0, 1, 2));
    Edges.edge("20 shareAbove: a will for the only child has all of it",
        Edges.people(2) + "will 0 1 1; proof 0 1 5; death 0\n" + Edges.share(1, 0, 1, 1));
    Edges.edge("20 shareAbove: 13 weights of 9", Edges.people(14)
        + Edges.each(1, 14, p -> "will 0 " + p + " 9") + "death 0\n" + Edges.share(7, 0, 1, 13));
    Edges.edge("20 shareAbove: the least of a will, 1 of 109", Edges.people(14)
        + "will 0 1 1\n" + Edges.each(2, 14, p -> "will 0 " + p + " 9") + "death 0\n"
        + Edges.share(1, 0, 1, 109) + Edges.share(2, 0, 9, 109));
    Edges.edge("20 shareAbove: half of the least of a will, 1 of 218", CHILDREN
        + "will 0 1 1\n" + Edges.each(2, 14, p -> "will 0 " + p + " 9")
        + "doubt 0 5; death 0\n" + Edges.share(1, 0, 1, 218));
    Edges.edge("20 shareAbove: the sum is of those who were alive at the closing", Edges.people(4)
        + "will 0 1 1; will 0 2 1; will 0 3 8; death 0\n" + Edges.share(1, 0, 1, 10)
        + "death 3\n" + Edges.share(1, 0, 1, 2) + "close 0; death 2\n"
        + Edges.share(1, 0, 1, 2) + Edges.share(2, 0, 1, 2));
    Edges.edge("20 shareAbove: an heir of the will passes nothing on", Edges.people(4)
        + "will 0 1 1; will 0 2 1; proof 1 3 5; death 1; death 0\n" + Edges.share(2, 0, 1, 1)
        + Edges.share(3, 0, 0, 1));
  }

  private static void theLongestWays() {
    Edges.edge("20 shareAbove: down a line of 14", LINE + Edges.each(0, 13, p -> "death " + p)
        + Edges.share(13, 0, 1, 1) + Edges.share(13, 12, 1, 1) + "heirs 0 = 1");
    Edges.edge("20 shareAbove: a line of 14 that ended",
        LINE + Edges.each(0, 14, p -> "death " + p) + "heirs 0 = 0; heirs 13 = 0");
    Edges.edge("22 shareAboveByWays: as many ways as there can be", Edges.people(14)
        + Edges.each(1, 14, p -> "proof " + (p - 1) + " " + p + " 5")
        + Edges.each(2, 14, p -> "proof " + (p - 2) + " " + p + " 5")
        + Edges.each(0, 12, p -> "death " + p) + Edges.share(12, 0, 2731, 4096)
        + Edges.share(13, 0, 1365, 4096));
    Edges.edge("22 shareAboveByWays: the numbers fall with age", "pass 100\n"
        + Edges.each(0, 14, p -> "birth " + (50 - p))
        + Edges.each(0, 13, p -> "proof " + (p + 1) + " " + p + " 5")
        + Edges.each(0, 12, p -> "proof " + (p + 2) + " " + p + " 5")
        + Edges.each(2, 14, p -> "death " + p) + Edges.share(1, 13, 2731, 4096)
        + Edges.share(0, 13, 1365, 4096));
    Edges.edge("22 shareAboveByWays: three children each, three generations", Edges.people(13)
        + Edges.each(1, 13, p -> "proof " + (p - 1) / 3 + " " + p + " 5")
        + "death 0; death 1; death 2; death 3\n" + Edges.share(4, 0, 1, 9)
        + Edges.share(12, 0, 1, 9) + "heirs 0 = 9");
  }

  private static void sharesThrow() {
    for (String call : new String[] {"20 shareAbove", "21 shareBelow", "22 shareAboveByWays"}) {
      String name = call.substring(3);
      Edges.edge(call + ": the other one is alive",
          Edges.people(2) + "proof 0 1 5; " + name + " 1 0 ! state; death 1; " + name
              + " 1 0 ! state");
      Edges.edge(call + ": it is the same, and alive",
          Edges.people(2) + name + " 0 0 ! state");
      Edges.edge(call + ": the dead person has a will, the other one is alive",
          Edges.people(2) + "will 0 1 5; death 1; " + name + " 1 0 ! state; " + name + " 0 1");
      Edges.edge(call + ": no person, and the other one is alive, the index is first",
          Edges.people(2) + name + " 2 0 ! index; " + name + " -1 0 ! index");
      Edges.edge(call + ": neither is there",
          Edges.people(2) + name + " 2 2 ! index; " + name + " -1 -1 ! index");
      Edges.edge(call + ": nobody is there", name + " 0 0 ! index");
    }
  }

  private static void heirs() {
    Edges.edge("23 heirs: none", Edges.people(2) + "death 0; heirs 0 = 0");
    Edges.edge("23 heirs: one", Edges.people(2) + "proof 0 1 5; death 0; heirs 0 = 1");
    Edges.edge("23 heirs: one, the person 0",
        Edges.people(2) + "proof 0 1 5; death 1; heirs 1 = 1");
    Edges.edge("23 heirs: one, the person 13",
        Edges.people(14) + "proof 0 13 5; death 0; heirs 0 = 1");
    Edges.edge("23 heirs: 13, the most", CHILDREN + "death 0; heirs 0 = 13");
    Edges.edge("23 heirs: 13 by will, the most", Edges.people(14)
        + Edges.each(1, 14, p -> "will 0 " + p + " 1") + "death 0; heirs 0 = 13");
    Edges.edge("23 heirs: who is one by will and by kin is one", Edges.people(3)
        + "will 0 1 1; proof 0 1 5; proof 0 2 5; death 0; heirs 0 = 2");
    Edges.edge("23 heirs: on two ways one is one", Edges.people(4)
        + "proof 0 1 5; proof 0 2 5; proof 1 3 5; proof 2 3 5; death 0; death 1; death 2\n"
        + "heirs 0 = 1");
    Edges.edge("23 heirs: without land", CHILDREN + "death 0; close 0 = 13; heirs 0 = 13");
    Edges.edge("23 heirs: of the living",
        Edges.people(2) + "proof 0 1 5; heirs 0 ! state; death 0; heirs 0 = 1; heirs 1 ! state");
    Edges.edge("23 heirs: nobody is there", "heirs 0 ! index; heirs -1 ! index");
  }

  private static void disputes() {
    String one = Edges.people(3) + "proof 0 1 5; death 0\n";
    Edges.edge("24 disputes: no doubts", one + "disputes 0 = 0");
    Edges.edge("24 disputes: one", one + "doubt 0 1; disputes 0 = 1");
    Edges.edge("24 disputes: 30 open doubts, the most", CHILDREN + "death 0\n"
        + Edges.each(0, 30, n -> "doubt " + n % 13 + " 1") + "disputes 0 = 30");
    Edges.edge("24 disputes: 30 open doubts, and not one matters", Edges.people(4)
        + Edges.times(5, "proof 0 1 9") + Edges.times(30, "doubt 0 1") + "death 0; disputes 0 = 0");
    Edges.edge("24 disputes: against a proof that just stands", one + "doubt 0 4; disputes 0 = 1");
    Edges.edge("24 disputes: against a proof that does not stand",
        one + "doubt 0 5; disputes 0 = 0");
    Edges.edge("24 disputes: the last doubt takes the others' dispute away",
        one + "doubt 0 2; doubt 0 2; disputes 0 = 2; doubt 0 1; disputes 0 = 0\n"
            + "judge 0 false; disputes 0 = 2");
    Edges.edge("24 disputes: judged ones are none", one
        + "doubt 0 1; doubt 0 1; judge 0 false; disputes 0 = 1; judge 1 true; disputes 0 = 0");
    Edges.edge("24 disputes: another proof says the same",
        one + "proof 0 1 1; doubt 0 1; disputes 0 = 0; doubt 1 1; disputes 0 = 1");
    Edges.edge("24 disputes: the third parent would move up", Edges.people(4)
        + "proof 0 3 5; proof 1 3 5; proof 2 3 3; death 3; doubt 0 1; disputes 3 = 1");
    Edges.edge("24 disputes: the third parent has moved up by the doubt already", Edges.people(4)
        + "proof 0 3 5; proof 1 3 5; proof 2 3 5; death 3; doubt 0 1; disputes 3 = 0");
    Edges.edge("24 disputes: only the order of the parents would be other", Edges.people(3)
        + "proof 0 2 5; proof 0 2 3; proof 1 2 4; death 2; doubt 0 1; disputes 2 = 0");
    Edges.edge("24 disputes: about somebody without a living line", Edges.people(3)
        + "proof 0 1 5; proof 0 2 5; death 1; death 0; doubt 0 1; disputes 0 = 0");
    Edges.edge("24 disputes: by the will alone it is the same", Edges.people(3)
        + "will 1 2 5; proof 0 1 5; death 1; doubt 0 1; disputes 1 = 0");
    Edges.edge("24 disputes: half by will, the same heir has it all by will", Edges.people(2)
        + "will 0 1 5; proof 0 1 5; death 0; doubt 0 1; disputes 0 = 0");
    Edges.edge("24 disputes: each estate has its own", Edges.people(4)
        + "proof 0 2 5; proof 1 3 5; death 0; death 1; doubt 0 1; disputes 0 = 1; disputes 1 = 0");
    Edges.edge("24 disputes: of a closed estate, by who was alive at the closing", Edges.people(3)
        + "proof 0 1 5; death 0; close 0; doubt 0 1; death 1; disputes 0 = 1");
    Edges.edge("24 disputes: of one that is not closed, by who is alive now",
        Edges.people(3) + "proof 0 1 5; death 0; doubt 0 1; death 1; disputes 0 = 0");
    Edges.edge("24 disputes: asking changes nothing", Edges.people(3)
        + "grant 0 0 2; proof 0 1 5; death 0; close 0; doubt 0 1; disputes 0 = 1; disputes 0 = 1\n"
        + "reopenings 0 = 0; childrenOf 0 = 2; strength 0 = 4; openDoubts = 1\n"
        + Edges.owners(0, 1, 1) + Edges.share(1, 0, 1, 1));
  }

  private static void disputesThrow() {
    Edges.edge("24 disputes: of the living", Edges.people(2)
        + "proof 0 1 5; doubt 0 1; disputes 0 ! state; death 0; disputes 0 = 1; disputes 1 ! state");
    Edges.edge("24 disputes: nobody is there", "disputes 0 ! index; disputes -1 ! index");
  }

  private static void reopenings() {
    String closed = Edges.people(4) + "proof 0 1 5; death 0; close 0\n";
    Edges.edge("25 reopenings: by a proof", closed + "proof 0 2 5; reopenings 0 = 1");
    Edges.edge("25 reopenings: by a doubt", closed + "doubt 0 5; reopenings 0 = 1");
    Edges.edge("25 reopenings: by a doubt that is not upheld",
        closed + "doubt 0 5; judge 0 false; reopenings 0 = 2");
    Edges.edge("25 reopenings: by one that is upheld",
        closed + "doubt 0 4; judge 0 true; reopenings 0 = 1");
    Edges.edge("25 reopenings: back and forth, each call is one", closed
        + Edges.each(0, 15, n -> "doubt 0 5; judge " + n + " false; reopenings 0 = " + (2 * n + 2))
        + Edges.share(1, 0, 1, 1));
    Edges.edge("25 reopenings: one call, several estates", Edges.people(4) + """
        proof 0 1 5; proof 1 2 5; death 0; death 1; close 0; close 1; proof 1 3 5
        reopenings 0 = 1; reopenings 1 = 1; doubt 2 5; reopenings 0 = 2; reopenings 1 = 2
        """);
    Edges.edge("25 reopenings: of 13 estates by one call", LINE
        + Edges.each(0, 13, p -> "death " + p) + Edges.each(0, 13, p -> "close " + p + " = 1")
        + "doubt 12 5\n" + Edges.each(0, 13, p -> "reopenings " + p + " = 1; heirs " + p + " = 0"));
    Edges.edge("25 reopenings: the first heir of all", Edges.people(2)
        + "death 0; close 0 = 0; proof 0 1 5; reopenings 0 = 1; heirs 0 = 1");
    Edges.edge("25 reopenings: the first heir of all is the person 0", Edges.people(2)
        + "death 1; close 1 = 0; proof 0 1 5; reopenings 1 = 1; heirs 1 = 1");
    Edges.edge("25 reopenings: the first heir of all is the person 13", Edges.people(14)
        + "death 1; close 1 = 0; proof 1 13 5; reopenings 1 = 1; heirs 1 = 1");
    Edges.edge("25 reopenings: only the parts become others, not the heirs", Edges.people(4)
        + "proof 0 1 5; proof 0 2 5; proof 1 3 5; proof 2 3 5; death 1; death 2; death 0\n"
        + "close 0; birth 4; proof 1 4 5; heirs 0 = 2; reopenings 0 = 1; proof 2 4 5\n"
        + "heirs 0 = 2; reopenings 0 = 2\n" + Edges.share(3, 0, 1, 2));
    Edges.edge("25 reopenings: without land, too",
        closed + "proof 0 2 5; parcels = 0; reopenings 0 = 1");
    Edges.edge("25 reopenings: of the first and the last of 14", Edges.people(14)
        + "proof 0 12 5; death 0; close 0; proof 1 13 5; death 13; close 13; doubt 0 5; doubt 1 5\n"
        + "reopenings 0 = 1; reopenings 13 = 1");
  }

  private static void notReopened() {
    String closed = Edges.people(4) + "proof 0 1 5; death 0; close 0\n";
    Edges.edge("25 reopenings: 0 for the living",
        Edges.people(2) + "proof 0 1 5; doubt 0 5; reopenings 0 = 0; reopenings 1 = 0");
    Edges.edge("25 reopenings: 0 before the closing", Edges.people(3)
        + "death 0; proof 0 1 5; proof 0 2 5; doubt 0 5; judge 0 false; reopenings 0 = 0");
    Edges.edge("25 reopenings: 0 at the closing", closed + "reopenings 0 = 0");
    Edges.edge("25 reopenings: not those before the closing",
        Edges.people(3) + "death 0; proof 0 1 5; close 0; reopenings 0 = 0; proof 0 2 5\n"
            + "reopenings 0 = 1");
    Edges.edge("25 reopenings: the same proof again is none",
        closed + "proof 0 1 9; reopenings 0 = 0; doubt 0 5; reopenings 0 = 0");
    Edges.edge("25 reopenings: a doubt under which it stands is none",
        closed + "doubt 0 4; reopenings 0 = 0; judge 0 false; reopenings 0 = 0");
    Edges.edge("25 reopenings: falling by what did not stand is none",
        closed + "doubt 0 5; reopenings 0 = 1; judge 0 true; reopenings 0 = 1");
    Edges.edge("25 reopenings: kin of others is none",
        closed + "proof 2 3 5; proof 1 2 5; reopenings 0 = 0");
    Edges.edge("25 reopenings: births, deaths, days, wills and land are none", closed + """
        birth 50; pass 1; death 1; will 2 3 1; grant 2 0 9; hand 2 3 0 4; reopenings 0 = 0
        """);
    Edges.edge("25 reopenings: of another estate that hands land on is none", Edges.people(4) + """
        grant 0 0 4; proof 0 1 5; proof 1 2 5; death 0; close 0; death 1; close 1
        area 2 = 4; proof 0 3 5; area 2 = 2; area 3 = 2; reopenings 0 = 1; reopenings 1 = 0
        """);
    Edges.edge("25 reopenings: by the will alone it is the same",
        Edges.people(3) + "will 1 2 5; proof 0 1 5; death 1; close 1; doubt 0 5\n"
            + "reopenings 1 = 0");
    Edges.edge("25 reopenings: refused calls are none", closed + """
        proof 0 2 10 ! argument; proof 2 0 5 ! argument; proof 0 4 5 ! index; doubt 0 10 ! argument
        doubt 1 5 ! index; judge 0 true ! index; reopenings 0 = 0
        """);
    Edges.edge("25 reopenings: nobody is there", "reopenings 0 ! index; reopenings -1 ! index");
  }
}
