import java.util.NoSuchElementException;

/** Promises 26 to 32: grants, handings, drawn boundaries, owners and parcels. */
public final class LandTest {
  public static void main(String[] args) {
    grant();
    hand();
    handingsAreSixty();
    drawn();
    fewUnits();
    drawnApart();
    withoutHeirs();
    reopenedBehindHandings();
    reopenedInTurn();
    reopenedEarlierClosing();
    reopenedTogether();
    reopenedFromTheFirstDeed();
    judgedTwice();
    allDeeds();
    edgesOfTheLand();
    parcels();
    wrongUnits();
    Check.finish();
  }

  private static Treeclerk people(int people) {
    Treeclerk clerk = new Treeclerk();
    clerk.pass(100);
    for (int person = 0; person < people; person++) {
      clerk.birth(5 * person);
    }
    return clerk;
  }

  private static void grant() {
    Treeclerk clerk = people(3);
    Check.due("26: four", clerk.grant(0, 5, 9), 4);
    Check.owners("26: granted", clerk, 4, -1, 0, 0, 0, 0, -1);
    Check.due("26: one", clerk.grant(1, 59, 60), 1);
    Check.due("26: the first one", clerk.grant(1, 0, 1), 1);
    Check.thrown("26: overlaps", Check.STATE, () -> clerk.grant(1, 8, 12));
    Check.thrown("26: overlaps", Check.STATE, () -> clerk.grant(1, 2, 6));
    Check.thrown("26: its own", Check.STATE, () -> clerk.grant(0, 6, 7));
    Check.due("26: beside", clerk.grant(1, 9, 10), 1);
    Check.due("26: beside", clerk.grant(1, 4, 5), 1);
    int[] persons = {-1, 3, 14, Integer.MAX_VALUE, Integer.MIN_VALUE};
    for (int person : persons) {
      Check.thrown("26: person", Check.INDEX, () -> clerk.grant(person, 20, 21));
      Check.thrown("26: the index first", Check.INDEX, () -> clerk.grant(person, 20, 20));
    }
    badUnits("26", (from, to) -> clerk.grant(0, from, to));
    clerk.death(2);
    Check.thrown("26: the dead", Check.STATE, () -> clerk.grant(2, 20, 21));
    Check.thrown("26: the argument first", Check.ARGUMENT, () -> clerk.grant(2, 20, 20));
    clerk.death(0);
    clerk.close(0);
    Check.owners("26: nobody's again", clerk, 5, -1, -1);
    Check.thrown("26: granted before", Check.STATE, () -> clerk.grant(1, 5, 6));
    Check.due("26: all the rest", clerk.grant(1, 10, 59), 49);
  }

  private interface UnitsCall {
    long answer(int from, int to);
  }

  private static void badUnits(String promise, UnitsCall call) {
    int[][] bad = {
      {-1, 5}, {60, 61}, {60, 60}, {5, 5}, {5, 4}, {5, 61}, {0, 0}, {59, 59},
      {Integer.MIN_VALUE, 5}, {Integer.MAX_VALUE, Integer.MIN_VALUE}, {5, Integer.MAX_VALUE},
      {5, Integer.MIN_VALUE}, {5, -1}
    };
    for (int[] units : bad) {
      Check.thrown(promise + ": " + units[0] + " to " + units[1], Check.ARGUMENT,
          () -> call.answer(units[0], units[1]));
    }
  }

  private static void hand() {
    Treeclerk clerk = people(4);
    clerk.grant(0, 5, 10);
    clerk.grant(1, 10, 12);
    Check.due("27: those that belong to it", clerk.hand(0, 2, 8, 60), 2);
    Check.owners("27: handed", clerk, 5, 0, 0, 0, 2, 2, 1, 1, -1);
    Check.thrown("27: none", Check.STATE, () -> clerk.hand(0, 2, 8, 60));
    Check.due("27: back", clerk.hand(2, 0, 9, 10), 1);
    Check.due("27: from its middle", clerk.hand(0, 3, 6, 7), 1);
    Check.owners("27: from its middle", clerk, 5, 0, 3, 0, 2, 0);
    Check.due("27: back", clerk.hand(3, 0, 6, 7), 1);
    Check.due("27: all", clerk.hand(0, 1, 0, 60), 4);
    Check.owners("27: handed", clerk, 5, 1, 1, 1, 2, 1, 1, 1);
    Check.due("30: area", clerk.area(1), 6);
    Check.due("30: area", clerk.area(2), 1);
    Check.due("30: area", clerk.area(0), 0);
    int[] persons = {-1, 4, 14, Integer.MAX_VALUE, Integer.MIN_VALUE};
    for (int p : persons) {
      Check.thrown("27: person", Check.INDEX, () -> clerk.hand(p, 0, 5, 6));
      Check.thrown("27: other", Check.INDEX, () -> clerk.hand(1, p, 5, 6));
      Check.thrown("27: the index first", Check.INDEX, () -> clerk.hand(p, p, 6, 6));
      Check.thrown("30: person", Check.INDEX, () -> clerk.area(p));
    }
    badUnits("27", (from, to) -> clerk.hand(1, 0, from, to));
    Check.thrown("27: the same", Check.ARGUMENT, () -> clerk.hand(1, 1, 5, 6));
    clerk.death(3);
    Check.thrown("27: to the dead", Check.STATE, () -> clerk.hand(1, 3, 5, 6));
    clerk.death(1);
    Check.thrown("27: from the dead", Check.STATE, () -> clerk.hand(1, 0, 5, 6));
    Check.thrown("27: the argument first", Check.ARGUMENT, () -> clerk.hand(1, 1, 5, 6));
    Check.thrown("27: the argument first", Check.ARGUMENT, () -> clerk.hand(1, 0, 6, 6));
  }

  private static void handingsAreSixty() {
    Treeclerk clerk = people(3);
    clerk.grant(0, 0, 60);
    for (int handing = 0; handing < 60; handing++) {
      int giver = handing % 2;
      Check.due("27: handing", clerk.hand(giver, 1 - giver, 0, 60), 60);
      if (handing == 20) {
        Check.thrown("27: what threw is none", Check.STATE,
            () -> clerk.hand(giver, 1 - giver, 0, 60));
      }
    }
    Check.thrown("27: a 61st", Check.STATE, () -> clerk.hand(0, 1, 0, 60));
    Check.thrown("27: the argument first", Check.ARGUMENT, () -> clerk.hand(0, 0, 0, 60));
    clerk.proof(0, 2, 1);
    clerk.death(0);
    Check.due("27: closings go on", clerk.close(0), 1);
    Check.owners("27: closings go on", clerk, 58, 2, 2);
  }

  private static void drawn() {
    Treeclerk clerk = people(5);
    clerk.grant(0, 10, 21);
    for (int child = 1; child < 5; child++) {
      clerk.proof(0, child, 5);
    }
    clerk.death(0);
    clerk.claim(4, 0);
    clerk.claim(2, 0);
    clerk.close(0);
    Check.owners("28: 2 each, and 3 are left over", clerk, 9,
        -1, 4, 4, 4, 2, 2, 2, 1, 1, 1, 3, 3, -1);
    clerk.death(4);
    Check.owners("28: the dead keep it", clerk, 10, 4, 4, 4);
    Check.due("30: area of the dead", clerk.area(4), 3);
  }

  private static void fewUnits() {
    Treeclerk clerk = people(5);
    clerk.grant(0, 0, 2);
    clerk.will(0, 1, 1);
    clerk.will(0, 2, 9);
    clerk.will(0, 3, 1);
    clerk.death(0);
    clerk.claim(3, 0);
    clerk.close(0);
    Check.owners("28: one is left over", clerk, 0, 3, 2);
    clerk.death(4);
    Check.due("28: no units to draw", clerk.close(4), 0);
  }

  private static void drawnApart() {
    Treeclerk clerk = people(4);
    clerk.grant(0, 0, 3);
    clerk.grant(3, 3, 6);
    clerk.grant(0, 6, 9);
    clerk.proof(0, 1, 5);
    clerk.proof(0, 2, 5);
    clerk.death(0);
    clerk.claim(3, 0);
    clerk.claim(2, 0);
    clerk.close(0);
    Check.owners("28: a row of its units", clerk, 0, 2, 2, 2, 3, 3, 3, 1, 1, 1);
    Check.due("31: parcels", clerk.parcels(), 3);
  }

  private static void withoutHeirs() {
    Treeclerk clerk = people(2);
    clerk.grant(0, 0, 3);
    clerk.death(0);
    Check.owners("28: not closed yet", clerk, 0, 0, 0, 0);
    Check.due("18: no heirs", clerk.close(0), 0);
    Check.owners("28: nobody's", clerk, 0, -1, -1, -1);
    Check.due("30: area", clerk.area(0), 0);
    clerk.proof(0, 1, 1);
    Check.owners("28: reopened", clerk, 0, 1, 1, 1);
  }

  private static void reopenedBehindHandings() {
    Treeclerk clerk = people(5);
    clerk.grant(0, 0, 6);
    clerk.proof(0, 1, 5);
    clerk.death(0);
    clerk.close(0);
    clerk.hand(1, 2, 0, 6);
    clerk.grant(3, 6, 8);
    clerk.hand(3, 2, 6, 7);
    Check.owners("28: before", clerk, 0, 2, 2, 2, 2, 2, 2, 2, 3);
    clerk.proof(0, 4, 5);
    Check.owners("28: what belongs to it at that place", clerk, 0, 2, 2, 2, 4, 4, 4, 2, 3);
    clerk.doubt(0, 5);
    Check.owners("28: it hands nothing", clerk, 0, 4, 4, 4, 4, 4, 4, 2, 3);
    Check.due("10: back", clerk.judge(0, false), 3);
    Check.owners("28: back", clerk, 0, 2, 2, 2, 4, 4, 4, 2, 3);
  }

  private static void reopenedInTurn() {
    Treeclerk clerk = people(6);
    clerk.grant(0, 0, 8);
    clerk.proof(0, 1, 5);
    clerk.proof(1, 2, 5);
    clerk.proof(1, 3, 5);
    clerk.death(0);
    clerk.close(0);
    clerk.death(1);
    clerk.close(1);
    Check.owners("28: drawn twice", clerk, 0, 2, 2, 2, 2, 3, 3, 3, 3);
    clerk.proof(0, 4, 5);
    Check.owners("28: with the land those who died since", clerk, 0, 2, 2, 3, 3, 4, 4, 4, 4);
    Check.due("25: the first", clerk.reopenings(0), 1);
    Check.due("25: not the second", clerk.reopenings(1), 0);
    clerk.proof(1, 5, 5);
    Check.owners("28: only the second", clerk, 0, 2, 2, 3, 5, 4, 4, 4, 4);
    Check.due("25: not the first", clerk.reopenings(0), 1);
    Check.due("25: the second", clerk.reopenings(1), 1);
    clerk.doubt(0, 5);
    Check.owners("28: the first once more", clerk, 0, 4, 4, 4, 4, 4, 4, 4, 4);
    Check.due("10: back", clerk.judge(0, false), 4);
    Check.owners("28: the first once more", clerk, 0, 2, 2, 3, 5, 4, 4, 4, 4);
  }

  /** The later person's estate is closed first: it is drawn first, too. */
  private static void reopenedEarlierClosing() {
    Treeclerk clerk = people(6);
    clerk.grant(1, 0, 2);
    clerk.grant(0, 2, 4);
    clerk.proof(0, 1, 5);
    clerk.proof(1, 2, 5);
    clerk.death(0);
    clerk.death(1);
    clerk.close(1);
    clerk.hand(2, 3, 0, 60);
    clerk.close(0);
    Check.owners("28: the handing was before", clerk, 0, 3, 3, 2, 2);
    clerk.proof(1, 4, 5);
    Check.owners("28: both are drawn anew", clerk, 0, 3, 4, 2, 4);
    Check.due("25: both", clerk.reopenings(0) + clerk.reopenings(1), 2);
    clerk.doubt(1, 5);
    Check.owners("28: both are drawn anew", clerk, 0, 4, 4, 4, 4);
    clerk.judge(0, true);
    Check.owners("28: nothing more", clerk, 0, 4, 4, 4, 4);
  }

  /** One proof changes two estates: the land is drawn anew from the earlier closing on. */
  private static void reopenedTogether() {
    Treeclerk clerk = people(4);
    clerk.grant(0, 0, 2);
    clerk.grant(1, 2, 4);
    clerk.proof(0, 1, 5);
    clerk.death(1);
    clerk.death(0);
    clerk.close(0);
    clerk.close(1);
    Check.owners("28: no heirs", clerk, 0, -1, -1, -1, -1);
    clerk.proof(1, 3, 5);
    Check.owners("28: both are drawn anew", clerk, 0, 3, 3, 3, 3);
    Check.due("25: the first", clerk.reopenings(0), 1);
    Check.due("25: the second", clerk.reopenings(1), 1);
  }

  /** The very first deed is a closing of somebody without land. */
  private static void reopenedFromTheFirstDeed() {
    Treeclerk clerk = people(4);
    clerk.proof(0, 1, 5);
    clerk.proof(0, 3, 5);
    clerk.death(0);
    Check.due("18: two children", clerk.close(0), 2);
    clerk.grant(1, 0, 2);
    clerk.death(1);
    Check.due("18: the other child", clerk.close(1), 1);
    Check.owners("28: the other child's", clerk, 0, 3, 3);
    clerk.doubt(0, 5);
    Check.owners("28: no child of that parent", clerk, 0, -1, -1);
    Check.due("25: the one without land", clerk.reopenings(0), 1);
    Check.due("25: the one with land", clerk.reopenings(1), 1);
    Check.due("10: by the judgement", clerk.judge(0, false), 2);
    Check.owners("28: the other child's again", clerk, 0, 3, 3);
  }

  /** Nothing is asked between the judgements, so each counts against the one before. */
  private static void judgedTwice() {
    Treeclerk clerk = people(4);
    clerk.grant(0, 0, 60);
    clerk.proof(0, 1, 5);
    clerk.proof(0, 2, 5);
    clerk.death(0);
    clerk.close(0);
    clerk.doubt(0, 5);
    clerk.doubt(1, 1);
    Check.due("10: half of it comes back", clerk.judge(0, false), 30);
    Check.due("10: the other half goes", clerk.judge(1, true), 30);
    Check.owners("28: all is the first one's", clerk, 29, 1, 1);
  }

  /** As many deeds as there can be: 60 grants, 60 handings and 14 closings. */
  private static void allDeeds() {
    Treeclerk clerk = people(14);
    for (int unit = 0; unit < 60; unit++) {
      Check.due("26: one by one", clerk.grant(unit % 14, unit, unit + 1), 1);
    }
    for (int unit = 0; unit < 60; unit++) {
      Check.due("27: one by one", clerk.hand(unit % 14, (unit + 1) % 14, unit, unit + 1), 1);
      Check.owners("27: one by one", clerk, unit, (unit + 1) % 14);
    }
    for (int child = 1; child < 14; child++) {
      clerk.proof(child - 1, child, 5);
    }
    for (int dead = 0; dead < 13; dead++) {
      clerk.death(dead);
      Check.due("18: the next one", clerk.close(dead), 1);
    }
    Check.due("30: all came to the last one", clerk.area(13), 60);
    Check.owners("28: the first ones", clerk, 0, 13, 13, 13);
    Check.owners("28: the last ones", clerk, 58, 13, 13);
    clerk.doubt(12, 5);
    Check.due("30: the last proof falls away", clerk.area(13), 4);
    Check.owners("28: what was handed to it stays", clerk, 11, -1, 13, -1);
    Check.owners("28: the last ones", clerk, 58, -1, -1);
    clerk.judge(0, false);
    Check.due("30: and comes back", clerk.area(13), 60);
    clerk.death(13);
    Check.due("18: the last one has no heirs", clerk.close(13), 0);
    Check.due("30: nothing is left", clerk.area(13), 0);
    Check.owners("28: nothing is left", clerk, 58, -1, -1);
    Check.due("31: no parcels", clerk.parcels(), 0);
  }

  private static void edgesOfTheLand() {
    Treeclerk clerk = people(14);
    clerk.grant(13, 0, 1);
    clerk.grant(13, 59, 60);
    Check.thrown("26: the first unit", Check.STATE, () -> clerk.grant(0, 0, 1));
    Check.thrown("26: the last unit", Check.STATE, () -> clerk.grant(0, 59, 60));
    Check.due("31: at both ends", clerk.parcels(), 2);
    Check.due("32: at the start", clerk.parcelAt(0), 1);
    Check.due("32: at the end", clerk.parcelAt(59), 5901);
    Check.due("30: at both ends", clerk.area(13), 2);
    clerk.will(13, 0, 1);
    clerk.will(13, 12, 1);
    clerk.death(13);
    Check.due("18: the last one's estate", clerk.close(13), 2);
    Check.owners("28: the first", clerk, 0, 0);
    Check.owners("28: the last", clerk, 59, 12);
  }

  private static void parcels() {
    Treeclerk clerk = people(3);
    clerk.grant(0, 0, 5);
    Check.due("31: one", clerk.parcels(), 1);
    clerk.grant(0, 5, 7);
    Check.due("31: two grants, one parcel", clerk.parcels(), 1);
    Check.due("32: from its middle", clerk.parcelAt(6), 7);
    clerk.grant(1, 7, 8);
    clerk.grant(0, 8, 9);
    clerk.grant(2, 50, 60);
    Check.due("31: four", clerk.parcels(), 4);
    Check.due("32: the first", clerk.parcelAt(0), 7);
    Check.due("32: of one unit", clerk.parcelAt(7), 701);
    Check.due("32: the same person's other one", clerk.parcelAt(8), 801);
    Check.due("32: at the end", clerk.parcelAt(59), 5010);
    Check.due("32: at the end", clerk.parcelAt(50), 5010);
    Check.thrown("32: nobody's", NoSuchElementException.class, () -> clerk.parcelAt(9));
    Check.thrown("32: nobody's", NoSuchElementException.class, () -> clerk.parcelAt(49));
    clerk.hand(1, 0, 7, 8);
    Check.due("31: grown together", clerk.parcels(), 2);
    Check.due("32: grown together", clerk.parcelAt(8), 9);
    clerk.grant(2, 9, 50);
    Check.due("32: up to another's", clerk.parcelAt(0), 9);
    Check.due("32: from another's on", clerk.parcelAt(30), 951);
    clerk.hand(2, 0, 0, 60);
    Check.due("31: all in one", clerk.parcels(), 1);
    Check.due("32: all in one", clerk.parcelAt(30), 60);
  }

  private static void wrongUnits() {
    Treeclerk clerk = people(1);
    clerk.grant(0, 0, 60);
    int[] units = {-1, 60, Integer.MAX_VALUE, Integer.MIN_VALUE};
    for (int unit : units) {
      Check.thrown("28: unit", Check.INDEX, () -> clerk.owner(unit));
      Check.thrown("29: unit", Check.INDEX, () -> clerk.ownerAnew(unit));
      Check.thrown("32: unit", Check.INDEX, () -> clerk.parcelAt(unit));
    }
    Check.owners("28: the last one", clerk, 59, 0);
    Check.due("30: all", clerk.area(0), 60);
  }
}
