/** The edges of promises 15 to 19: wills, claims and closings. */
public final class EstateEdgesTest {
  public static void main(String[] args) {
    will();
    willThrows();
    willThrowsTheFirst();
    claim();
    claimThrows();
    claimThrowsTheFirst();
    claims();
    close();
    closeThrows();
    isClosed();
    Edges.finish(15, 19);
  }

  private static void will() {
    Edges.edge("15 will: weight 0, the least", Edges.people(2) + "will 0 1 0 = 0; will 0 1 0 = 0");
    Edges.edge("15 will: weight 9, the most", Edges.people(2) + "will 0 1 9 = 0; will 0 1 9 = 9");
    Edges.edge("15 will: back to 0", Edges.people(2) + "will 0 1 9 = 0; will 0 1 0 = 9\n"
        + "will 0 1 5 = 0; will 0 1 0 = 5; death 0; heirs 0 = 0");
    Edges.edge("15 will: 0 at first, of each person for each other", Edges.people(14)
        + Edges.each(0, 14, p -> "will " + p + " " + (p + 1) % 14 + " 1 = 0; will " + p + " "
            + (p + 13) % 14 + " 1 = 0"));
    Edges.edge("15 will: each heir has a weight of its own", Edges.people(14)
        + Edges.each(0, 13, p -> "will 13 " + p + " " + (p % 10) + " = 0")
        + Edges.each(0, 13, p -> "will 13 " + p + " 3 = " + (p % 10)));
    Edges.edge("15 will: each person has a will of its own", Edges.people(14)
        + Edges.each(0, 13, p -> "will " + p + " 13 " + (p % 10) + " = 0")
        + Edges.each(0, 13, p -> "will " + p + " 13 3 = " + (p % 10)));
    Edges.edge("15 will: one is no weight for the other way",
        Edges.people(2) + "will 0 1 5 = 0; will 1 0 3 = 0; will 0 1 1 = 5");
    Edges.edge("15 will: the heir is the person 0", Edges.people(3)
        + "will 1 0 4 = 0; will 1 0 2 = 4; will 1 2 4; death 1\n" + Edges.share(0, 1, 1, 3)
        + Edges.share(2, 1, 2, 3));
    Edges.edge("15 will: the heir is the person 13, the will is that of 12", Edges.people(14)
        + "will 12 13 4 = 0; will 12 13 2 = 4; will 12 0 4; death 12\n"
        + Edges.share(13, 12, 1, 3));
    Edges.edge("15 will: a dead heir",
        Edges.people(2) + "death 1; will 0 1 5 = 0; will 0 1 6 = 5; death 0; heirs 0 = 0");
    Edges.edge("15 will: the last word counts", Edges.people(3)
        + "will 0 1 9; will 0 2 9; will 0 1 3; death 0\n" + Edges.share(1, 0, 1, 4)
        + Edges.share(2, 0, 3, 4));
    Edges.edge("15 will: its own estate is not concerned, but the other one's", Edges.people(2)
        + "will 0 1 5; death 1; heirs 1 = 0; heirs 0 ! state; death 0; heirs 0 = 0");
  }

  private static void willThrows() {
    Edges.edge("15 will: weight -1", Edges.people(2) + "will 0 1 5; will 0 1 -1 ! argument\n"
        + "will 0 1 0 = 5");
    Edges.edge("15 will: weight 10", Edges.people(2) + "will 0 1 5; will 0 1 10 ! argument\n"
        + "will 0 1 0 = 5");
    Edges.edge("15 will: weight the least int", Edges.people(2) + "will 0 1 MIN ! argument");
    Edges.edge("15 will: weight the greatest int", Edges.people(2) + "will 0 1 MAX ! argument");
    Edges.edge("15 will: both are the same",
        Edges.people(2) + "will 0 0 5 ! argument; will 1 1 0 ! argument");
    Edges.edge("15 will: the person is dead", Edges.people(3)
        + "will 0 1 5; death 0; will 0 1 6 ! state; will 0 2 6 ! state\n"
        + Edges.share(1, 0, 1, 1) + Edges.share(2, 0, 0, 1));
    Edges.edge("15 will: the person is dead, weight 0 takes nothing away", Edges.people(2)
        + "will 0 1 5; death 0; will 0 1 0 ! state\n" + Edges.share(1, 0, 1, 1));
    Edges.edge("15 will: the person's estate is closed", Edges.people(3)
        + "will 0 1 5; death 0; close 0; will 0 2 5 ! state; reopenings 0 = 0\n"
        + Edges.share(2, 0, 0, 1));
  }

  private static void willThrowsTheFirst() {
    Edges.edge("15 will: no person and weight 10, the index is first",
        Edges.people(2) + "will 2 1 10 ! index; will -1 1 -1 ! index");
    Edges.edge("15 will: no heir and weight 10, the index is first",
        Edges.people(2) + "will 0 2 10 ! index; will 0 -1 -1 ! index");
    Edges.edge("15 will: both are the same and not there, the index is first",
        Edges.people(2) + "will 2 2 5 ! index; will -1 -1 5 ! index; will 14 14 5 ! index");
    Edges.edge("15 will: no heir and the person is dead, the index is first",
        Edges.people(2) + "death 0; will 0 2 5 ! index; will 0 -1 5 ! index");
    Edges.edge("15 will: weight out of range and the person is dead, the argument is first",
        Edges.people(2) + "death 0; will 0 1 10 ! argument; will 0 1 -1 ! argument");
    Edges.edge("15 will: both are the same and dead, the argument is first",
        Edges.people(2) + "death 0; will 0 0 5 ! argument");
    Edges.edge("15 will: both are the same, and weight 10",
        Edges.people(2) + "will 0 0 10 ! argument; will 0 0 -1 ! argument");
    Edges.edge("15 will: no heir, weight 10 and the person is dead, the index is first",
        Edges.people(2) + "death 0; will 0 2 10 ! index");
  }

  private static void claim() {
    Edges.edge("16 claim: the first", Edges.people(2) + "death 0; claim 1 0 = 1; claims 0 = 1");
    Edges.edge("16 claim: 13 to one estate, the most", Edges.people(14)
        + "death 6\n" + Edges.each(0, 6, p -> "claim " + p + " 6 = " + (p + 1))
        + Edges.each(7, 14, p -> "claim " + p + " 6 = " + p) + "claims 6 = 13");
    Edges.edge("16 claim: 13 by one person, the most", Edges.people(14)
        + Edges.each(1, 14, p -> "death " + p + "; claim 0 " + p + " = 1; claims " + p + " = 1"));
    Edges.edge("16 claim: once by each to each estate", Edges.people(4)
        + "death 0; death 1; claim 2 0 = 1; claim 2 1 = 1; claim 3 0 = 2; claim 3 1 = 2");
    Edges.edge("16 claim: on the day of the death, by somebody born on it",
        "birth 0; death 0; birth 0; claim 1 0 = 1");
    Edges.edge("16 claim: by somebody born later, who is no heir", """
        birth 0; birth 0; will 0 1 1; death 0; pass 100; birth 100; claim 2 0 = 1; close 0 = 1
        """ + Edges.share(1, 0, 1, 1) + Edges.share(2, 0, 0, 1));
    Edges.edge("16 claim: the next one behind one that is gone", Edges.people(4)
        + "death 0; claim 1 0 = 1; claim 2 0 = 2; death 1; claim 3 0 = 2; claims 0 = 2");
    Edges.edge("16 claim: claims change no shares", Edges.people(3)
        + "proof 0 1 5; proof 0 2 5; death 0; claim 2 0\n" + Edges.share(1, 0, 1, 2)
        + Edges.share(2, 0, 1, 2));
  }

  private static void claimThrows() {
    Edges.edge("16 claim: the person is dead",
        Edges.people(3) + "death 0; death 1; claim 1 0 ! state; claims 0 = 0; claim 2 0 = 1");
    Edges.edge("16 claim: to its own estate, dead", Edges.people(2)
        + "death 0; claim 0 0 ! state; claims 0 = 0");
    Edges.edge("16 claim: the other one is alive",
        Edges.people(2) + "claim 1 0 ! state; death 0; claims 0 = 0; claim 1 0 = 1");
    Edges.edge("16 claim: to its own estate, alive",
        Edges.people(2) + "claim 0 0 ! state; claims 0 = 0");
    Edges.edge("16 claim: the estate is closed",
        Edges.people(3) + "death 0; claim 1 0; close 0; claim 2 0 ! state; claims 0 = 1");
    Edges.edge("16 claim: the person has filed one",
        Edges.people(3) + "death 0; claim 1 0; claim 1 0 ! state; claims 0 = 1; claim 2 0 = 2");
    Edges.edge("16 claim: the person has filed one, and others behind it", Edges.people(4)
        + "grant 0 0 3; proof 0 1 1; proof 0 2 1; proof 0 3 1; death 0; claim 2 0; claim 3 0\n"
        + "claim 2 0 ! state; claim 3 0 ! state; claims 0 = 2; close 0 = 3\n"
        + Edges.owners(0, 2, 3, 1));
    Edges.edge("16 claim: reopened, it is closed yet", Edges.people(3)
        + "death 0; close 0; proof 0 1 1; reopenings 0 = 1; claim 1 0 ! state; claims 0 = 0");
    Edges.edge("16 claim: nobody is there", "claim 0 0 ! index");
  }

  private static void claimThrowsTheFirst() {
    Edges.edge("16 claim: no person, and the other one is alive, the index is first",
        Edges.people(2) + "claim 2 0 ! index; claim -1 0 ! index");
    Edges.edge("16 claim: no other one, and the person is dead, the index is first",
        Edges.people(2) + "death 0; claim 0 2 ! index; claim 0 -1 ! index");
    Edges.edge("16 claim: no person, and the estate is closed, the index is first",
        Edges.people(2) + "death 0; close 0; claim 2 0 ! index; claim -1 0 ! index");
    Edges.edge("16 claim: neither is there",
        Edges.people(2) + "claim 2 2 ! index; claim -1 -1 ! index");
    Edges.edge("16 claim: the person is dead, and the other one is alive",
        Edges.people(2) + "death 0; claim 0 1 ! state; claims 1 = 0");
    Edges.edge("16 claim: the person is dead, and the estate is closed",
        Edges.people(2) + "death 0; death 1; close 0; claim 1 0 ! state; claims 0 = 0");
    Edges.edge("16 claim: closed, and the person has filed one",
        Edges.people(2) + "death 0; claim 1 0; close 0; claim 1 0 ! state; claims 0 = 1");
    Edges.edge("16 claim: dead, closed, and has filed one", Edges.people(2)
        + "death 0; claim 1 0; close 0; death 1; claim 1 0 ! state; claims 0 = 1");
  }

  private static void claims() {
    Edges.edge("17 claims: 0 for the living", Edges.people(2) + "claims 0 = 0; claims 1 = 0");
    Edges.edge("17 claims: 0 for the dead at first", Edges.people(2) + "death 0; claims 0 = 0");
    Edges.edge("17 claims: 0 when it was closed",
        Edges.people(2) + "death 0; close 0; claims 0 = 0; death 1 = 0; claims 0 = 0");
    Edges.edge("17 claims: 13, the most", Edges.people(14)
        + "death 0\n" + Edges.each(1, 14, p -> "claim " + p + " 0; claims 0 = " + p));
    Edges.edge("17 claims: 13 when it was closed, and all die", Edges.people(14)
        + "death 0\n" + Edges.each(1, 14, p -> "claim " + p + " 0") + "close 0\n"
        + Edges.each(1, 14, p -> "death " + p + " = 0; claims 0 = 13"));
    Edges.edge("17 claims: 13, and all die before it is closed", Edges.people(14)
        + "death 0\n" + Edges.each(1, 14, p -> "claim " + p + " 0")
        + Edges.each(1, 14, p -> "death " + p + " = 1; claims 0 = " + (13 - p))
        + "close 0; claims 0 = 0");
    Edges.edge("17 claims: a reopening changes none", Edges.people(3)
        + "death 0; claim 2 0; close 0; proof 0 1 5; reopenings 0 = 1; claims 0 = 1");
    Edges.edge("17 claims: nobody is there", "claims 0 ! index; claims -1 ! index");
  }

  private static void close() {
    Edges.edge("18 close: no heirs", Edges.people(2) + "death 0; close 0 = 0; heirs 0 = 0");
    Edges.edge("18 close: one heir", Edges.people(2) + "proof 0 1 5; death 0; close 0 = 1");
    Edges.edge("18 close: 13 heirs, the most", Edges.people(14)
        + Edges.each(1, 14, p -> "proof 0 " + p + " 1") + "death 0; close 0 = 13; heirs 0 = 13");
    Edges.edge("18 close: nobody is alive", "birth 0; death 0; close 0 = 0");
    Edges.edge("18 close: of each of 14", Edges.people(14)
        + Edges.each(0, 14, p -> "death " + p + "; close " + p + " = 0; isClosed " + p + " = 1"));
    Edges.edge("18 close: on the day of the death and much later", Edges.people(3)
        + "proof 0 2 5; proof 1 2 5; death 0; close 0 = 1; death 1\n"
        + Edges.times(19, "pass 100") + "close 1 = 1");
    Edges.edge("18 close: in another order than that of the deaths", Edges.people(3)
        + "grant 0 0 2; proof 0 1 5; proof 1 2 5; death 0; death 1; close 1 = 1; close 0 = 1\n"
        + Edges.owners(0, 2, 2));
    Edges.edge("18 close: who died before it is no heir, on the same day",
        Edges.people(2) + "proof 0 1 5; death 0; death 1; close 0 = 0");
    Edges.edge("18 close: who died behind it is an heir, on the same day",
        Edges.people(2) + "proof 0 1 5; death 0; close 0 = 1; death 1; heirs 0 = 1");
  }

  private static void closeThrows() {
    Edges.edge("18 close: the person is alive",
        Edges.people(2) + "close 0 ! state; isClosed 0 = false; death 0; close 0 = 0");
    Edges.edge("18 close: it is closed",
        Edges.people(2) + "proof 0 1 5; death 0; close 0 = 1; close 0 ! state; heirs 0 = 1");
    Edges.edge("18 close: it is closed, who died since was alive at the closing", Edges.people(3)
        + "proof 0 1 5; proof 0 2 5; death 0; close 0 = 2; death 1; close 0 ! state\n"
        + Edges.share(1, 0, 1, 2));
    Edges.edge("18 close: it is closed, the land is not drawn again", Edges.people(3)
        + "grant 0 0 2; proof 0 1 5; death 0; close 0; hand 1 2 0 2; close 0 ! state\n"
        + Edges.owners(0, 2, 2));
    Edges.edge("18 close: it is closed and reopened",
        Edges.people(2) + "death 0; close 0 = 0; proof 0 1 5; heirs 0 = 1; close 0 ! state");
    Edges.edge("18 close: nobody is there", "close 0 ! index; close -1 ! index");
  }

  private static void isClosed() {
    Edges.edge("19 isClosed: of the living", Edges.people(1) + "isClosed 0 = false");
    Edges.edge("19 isClosed: of the dead", Edges.people(1) + "death 0; isClosed 0 = false");
    Edges.edge("19 isClosed: closed", Edges.people(2)
        + "death 0; close 0; isClosed 0 = true; isClosed 1 = false");
    Edges.edge("19 isClosed: closed, and reopened", Edges.people(2)
        + "death 0; close 0; proof 0 1 5; reopenings 0 = 1; isClosed 0 = true");
    Edges.edge("19 isClosed: the first and the last of 14", Edges.people(14)
        + "death 13; close 13; isClosed 13 = true; isClosed 0 = false; death 0; close 0\n"
        + "isClosed 0 = true");
    Edges.edge("19 isClosed: nobody is there", "isClosed 0 ! index; isClosed -1 ! index");
  }
}
