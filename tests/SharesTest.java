/** Promises 20 to 25: shares by kin and by will, disputes and reopenings. */
public final class SharesTest {
  public static void main(String[] args) {
    lines();
    severalWays();
    parentsAndGrandparents();
    headsEachOnce();
    headsAboveOneAnother();
    whoCounts();
    whoWasAlive();
    wills();
    disputes();
    disputesOfTheUnclosed();
    reopenings();
    manyGenerations();
    youngestFirst();
    inNoOrder();
    theLastPerson();
    longestLine();
    onlyHeir();
    manyHeirs();
    weakestDispute();
    wrongInputs();
    Check.finish();
  }

  /** The person p is born on the day 10 times p, and today is the day 200. */
  private static Treeclerk people(int people) {
    Treeclerk clerk = new Treeclerk();
    clerk.pass(100);
    clerk.pass(100);
    for (int person = 0; person < people; person++) {
      clerk.birth(10 * person);
    }
    return clerk;
  }

  private static void lines() {
    Treeclerk clerk = people(8);
    clerk.proof(0, 1, 5);
    clerk.proof(0, 2, 5);
    clerk.proof(0, 3, 5);
    clerk.proof(1, 4, 5);
    clerk.proof(1, 5, 5);
    clerk.proof(2, 6, 5);
    clerk.death(0);
    Check.due("23: three", clerk.heirs(0), 3);
    Check.share("20: a third each", clerk, 1, 0, 1, 3);
    Check.share("20: grandchildren wait", clerk, 4, 0, 0, 1);
    clerk.death(1);
    Check.share("20: by the dead child", clerk, 4, 0, 1, 6);
    Check.share("20: by the dead child", clerk, 5, 0, 1, 6);
    Check.share("20: who passes on is no heir", clerk, 1, 0, 0, 1);
    Check.due("23: four", clerk.heirs(0), 4);
    clerk.death(4);
    Check.share("20: a line that ended", clerk, 5, 0, 1, 3);
    clerk.death(6);
    clerk.death(2);
    Check.share("20: a line that ended", clerk, 3, 0, 1, 2);
    Check.share("20: a line that ended", clerk, 5, 0, 1, 2);
    Check.share("20: the dead itself", clerk, 0, 0, 0, 1);
    clerk.death(3);
    Check.share("20: all", clerk, 5, 0, 1, 1);
    clerk.death(5);
    Check.due("23: none", clerk.heirs(0), 0);
    Check.share("21: 1 below for who is no heir", clerk, 7, 0, 0, 1);
  }

  private static void severalWays() {
    Treeclerk clerk = people(5);
    clerk.proof(0, 1, 5);
    clerk.proof(0, 2, 5);
    clerk.proof(1, 3, 5);
    clerk.proof(2, 3, 5);
    clerk.proof(2, 4, 5);
    clerk.death(0);
    clerk.death(1);
    clerk.death(2);
    Check.share("20: on two ways", clerk, 3, 0, 3, 4);
    Check.share("20: on one way", clerk, 4, 0, 1, 4);
    Check.due("23: two", clerk.heirs(0), 2);
  }

  private static void parentsAndGrandparents() {
    Treeclerk clerk = people(9);
    // 0 to 3 are the grandparents of 6 by 4 and 5; 7 is a child of 0, and 8 one of 5.
    clerk.proof(0, 4, 5);
    clerk.proof(1, 4, 5);
    clerk.proof(2, 5, 5);
    clerk.proof(3, 5, 5);
    clerk.proof(4, 6, 5);
    clerk.proof(5, 6, 5);
    clerk.proof(0, 7, 5);
    clerk.proof(5, 8, 5);
    clerk.death(6);
    Check.share("20: parents", clerk, 4, 6, 1, 2);
    Check.share("20: parents", clerk, 5, 6, 1, 2);
    clerk.death(5);
    Check.share("20: by the dead parent", clerk, 8, 6, 1, 2);
    Check.share("20: not its own child", clerk, 6, 6, 0, 1);
    clerk.death(8);
    Check.share("20: one parent's line", clerk, 4, 6, 1, 1);
    clerk.death(4);
    Check.due("23: four grandparents", clerk.heirs(6), 4);
    Check.share("20: grandparents", clerk, 2, 6, 1, 4);
    clerk.death(0);
    Check.share("20: by the dead grandparent", clerk, 7, 6, 1, 4);
    clerk.death(7);
    Check.share("20: three are left", clerk, 1, 6, 1, 3);
    clerk.death(1);
    clerk.death(2);
    clerk.death(3);
    Check.due("23: no further up", clerk.heirs(6), 0);
  }

  private static void headsEachOnce() {
    Treeclerk clerk = people(6);
    // Both parents of 4 have the parent 0; one of them has the parent 1, too.
    clerk.proof(0, 2, 5);
    clerk.proof(0, 3, 5);
    clerk.proof(1, 3, 5);
    clerk.proof(2, 4, 5);
    clerk.proof(3, 4, 5);
    clerk.death(2);
    clerk.death(3);
    clerk.death(4);
    Check.share("20: each head once", clerk, 0, 4, 1, 2);
    Check.share("20: each head once", clerk, 1, 4, 1, 2);
    clerk.death(1);
    Check.share("20: its line ended", clerk, 0, 4, 1, 1);
    clerk.death(0);
    Check.due("23: none", clerk.heirs(4), 0);
    clerk.proof(0, 5, 1);
    Check.share("20: a child of a grandparent", clerk, 5, 4, 1, 1);
  }

  private static void headsAboveOneAnother() {
    Treeclerk clerk = people(4);
    // 1 is a parent of 2, and both are parents of 3; 0 is a parent of 1.
    clerk.proof(1, 2, 5);
    clerk.proof(1, 3, 5);
    clerk.proof(2, 3, 4);
    clerk.proof(0, 1, 5);
    clerk.death(3);
    Check.share("20: both parents", clerk, 1, 3, 1, 2);
    Check.share("20: above the heads is nobody", clerk, 0, 3, 0, 1);
    clerk.death(1);
    Check.share("20: as a head and as a child", clerk, 2, 3, 1, 1);
    clerk.death(2);
    Check.share("20: a parent of a parent", clerk, 0, 3, 1, 1);
  }

  private static void whoCounts() {
    Treeclerk clerk = people(1);
    clerk.death(0);
    clerk.birth(200);
    clerk.proof(0, 1, 5);
    Check.share("20: born on the day of the death", clerk, 1, 0, 1, 1);
    clerk.pass(1);
    clerk.birth(201);
    clerk.proof(0, 2, 5);
    Check.share("20: born behind the death", clerk, 2, 0, 0, 1);
    Check.share("20: it takes nothing away", clerk, 1, 0, 1, 1);
    clerk.death(1);
    Check.due("23: no line is living", clerk.heirs(0), 0);
    clerk.close(0);
    clerk.pass(100);
    clerk.birth(199);
    clerk.proof(0, 3, 5);
    Check.share("20: registered late", clerk, 3, 0, 1, 1);
  }

  private static void whoWasAlive() {
    Treeclerk clerk = people(4);
    clerk.proof(0, 1, 5);
    clerk.proof(0, 2, 5);
    clerk.proof(1, 3, 5);
    clerk.death(0);
    clerk.death(2);
    clerk.close(0);
    Check.share("20: alive at the closing", clerk, 1, 0, 1, 1);
    clerk.death(1);
    Check.share("20: dies behind the closing", clerk, 1, 0, 1, 1);
    Check.share("20: its child waits", clerk, 3, 0, 0, 1);
    clerk.birth(150);
    clerk.death(4);
    clerk.proof(2, 4, 5);
    Check.share("20: registered behind the closing, and dead", clerk, 4, 0, 1, 2);
    Check.due("25: reopened", clerk.reopenings(0), 1);
    Check.due("20: in an estate that is not closed it is not", clerk.heirs(2), 1);
    Check.share("20: the brother's child", clerk, 3, 2, 1, 1);
  }

  private static void wills() {
    Treeclerk clerk = people(7);
    clerk.will(0, 1, 4);
    clerk.will(0, 2, 2);
    clerk.will(0, 3, 9);
    clerk.proof(4, 5, 3);
    clerk.proof(3, 6, 3);
    clerk.death(3);
    clerk.death(0);
    Check.share("20: by will", clerk, 1, 0, 2, 3);
    Check.share("20: by will", clerk, 2, 0, 1, 3);
    Check.share("20: the dead get nothing by it", clerk, 3, 0, 0, 1);
    Check.due("23: two", clerk.heirs(0), 2);
    clerk.birth(50);
    clerk.proof(0, 7, 5);
    Check.share("20: half by will", clerk, 1, 0, 1, 3);
    Check.share("20: half by kin", clerk, 7, 0, 1, 2);
    clerk.proof(0, 1, 5);
    Check.share("20: both together", clerk, 1, 0, 7, 12);
    Check.share("20: half by kin", clerk, 7, 0, 1, 4);
    Check.share("20: by will alone", clerk, 2, 0, 1, 6);
    clerk.death(1);
    clerk.death(2);
    Check.share("20: no will is left", clerk, 7, 0, 1, 1);

    clerk.will(5, 6, 1);
    clerk.death(5);
    Check.share("20: by will, not by the parents", clerk, 6, 5, 1, 1);
    Check.share("20: by will, not by the parents", clerk, 4, 5, 0, 1);
    clerk.death(6);
    Check.share("20: without a will by the parents", clerk, 4, 5, 1, 1);
  }

  private static void disputes() {
    Treeclerk clerk = people(6);
    clerk.proof(0, 1, 9);
    clerk.proof(0, 2, 9);
    clerk.proof(2, 3, 9);
    clerk.proof(0, 4, 2);
    clerk.proof(0, 1, 3);
    clerk.death(0);
    clerk.close(0);
    Check.due("24: no doubts", clerk.disputes(0), 0);
    clerk.doubt(1, 1);
    Check.due("24: one", clerk.disputes(0), 1);
    clerk.doubt(1, 1);
    Check.due("24: two against one proof", clerk.disputes(0), 2);
    clerk.doubt(2, 1);
    Check.due("24: of a grandchild who waits", clerk.disputes(0), 2);
    clerk.doubt(3, 2);
    Check.due("24: against what does not stand", clerk.disputes(0), 2);
    clerk.doubt(0, 1);
    Check.due("24: another proof is there", clerk.disputes(0), 2);
    clerk.doubt(4, 3);
    Check.due("24: there is none any more", clerk.disputes(0), 3);
    clerk.judge(0, false);
    Check.due("24: one is judged", clerk.disputes(0), 2);
    Check.due("24: asking changes nothing", clerk.parentOf(2, 0), 0);
    Check.due("24: asking reopens nothing", clerk.reopenings(0), 1);
    clerk.judge(1, true);
    Check.due("24: as it was told", clerk.reopenings(0), 2);
    Check.due("24: one is left", clerk.disputes(0), 1);
  }

  private static void disputesOfTheUnclosed() {
    Treeclerk clerk = people(5);
    clerk.proof(0, 4, 5);
    clerk.proof(2, 4, 4);
    clerk.proof(3, 4, 3);
    clerk.death(4);
    clerk.doubt(0, 1);
    clerk.doubt(2, 1);
    Check.due("24: a third parent would move up", clerk.disputes(4), 1);
    Check.share("24: they are as they are", clerk, 0, 4, 1, 2);
    Check.share("24: they are as they are", clerk, 3, 4, 0, 1);
    clerk.judge(0, true);
    Check.share("24: it did move up", clerk, 3, 4, 1, 2);
    Check.due("24: now it is about that one", clerk.disputes(4), 1);
  }

  private static void reopenings() {
    Treeclerk clerk = people(6);
    clerk.will(0, 1, 3);
    clerk.death(0);
    Check.due("25: not closed", clerk.reopenings(0), 0);
    clerk.proof(0, 2, 5);
    Check.due("25: not closed", clerk.reopenings(0), 0);
    clerk.close(0);
    Check.due("25: the closing is none", clerk.reopenings(0), 0);
    clerk.proof(0, 2, 7);
    Check.due("25: nothing is other by it", clerk.reopenings(0), 0);
    clerk.proof(0, 3, 5);
    Check.due("25: by a proof", clerk.reopenings(0), 1);
    clerk.doubt(2, 2);
    Check.due("25: it stands yet", clerk.reopenings(0), 1);
    clerk.doubt(2, 3);
    Check.due("25: by a doubt", clerk.reopenings(0), 2);
    clerk.judge(1, false);
    Check.due("25: by a judgement", clerk.reopenings(0), 3);
    clerk.judge(0, true);
    Check.due("25: by an upheld one", clerk.reopenings(0), 4);
    clerk.death(1);
    clerk.death(2);
    clerk.birth(5);
    clerk.pass(10);
    Check.due("25: not by deaths, births and days", clerk.reopenings(0), 4);
    Check.due("25: of the living", clerk.reopenings(4), 0);
    clerk.doubt(0, 5);
    clerk.doubt(1, 7);
    Check.share("25: the will alone", clerk, 1, 0, 1, 1);
    Check.due("25: by the last doubt", clerk.reopenings(0), 5);
  }

  /** Each person has the two before it as parents, so that ways are many and parts are small. */
  private static void manyGenerations() {
    Treeclerk clerk = people(14);
    for (int child = 1; child < 14; child++) {
      clerk.proof(child - 1, child, 5);
      if (child > 1) {
        clerk.proof(child - 2, child, 5);
      }
    }
    for (int person = 0; person < 12; person++) {
      clerk.death(person);
    }
    Check.share("20: many ways", clerk, 12, 0, 2731, 4096);
    Check.share("20: many ways", clerk, 13, 0, 1365, 4096);
    Check.share("20: a short way", clerk, 12, 11, 1, 2);
    clerk.will(12, 13, 1);
    clerk.death(12);
    Check.share("20: the last one has all", clerk, 13, 0, 1, 1);
    clerk.death(13);
    Check.due("23: nobody is left", clerk.heirs(0), 0);
    Check.due("23: nobody is left", clerk.heirs(13), 0);
  }

  /** The same once more, but people are registered from the youngest to the oldest. */
  private static void youngestFirst() {
    Treeclerk clerk = new Treeclerk();
    clerk.pass(100);
    for (int person = 0; person < 14; person++) {
      clerk.birth(26 - 2 * person);
    }
    for (int parent = 13; parent > 0; parent--) {
      clerk.proof(parent, parent - 1, 5);
      if (parent > 1) {
        clerk.proof(parent, parent - 2, 5);
      }
    }
    for (int person = 13; person > 1; person--) {
      clerk.death(person);
    }
    Check.share("20: many ways", clerk, 1, 13, 2731, 4096);
    Check.share("20: many ways", clerk, 0, 13, 1365, 4096);
    clerk.death(1);
    Check.share("20: the longest line", clerk, 0, 13, 1, 1);
    clerk.close(13);
    clerk.close(2);
    clerk.doubt(0, 5);
    Check.share("20: the longest line", clerk, 0, 13, 1, 1);
  }

  /** People are registered in no order of age, so their numbers tell nothing of it. */
  private static void inNoOrder() {
    Treeclerk clerk = new Treeclerk();
    clerk.pass(100);
    int[] days = {50, 10, 30, 70, 20, 60, 40};
    for (int day : days) {
      clerk.birth(day);
    }
    // The line by age is 1, 4, 2, 6, 0, 5, 3.
    int[] byAge = {1, 4, 2, 6, 0, 5, 3};
    for (int i = 1; i < 7; i++) {
      clerk.proof(byAge[i - 1], byAge[i], 5);
    }
    clerk.proof(4, 6, 5);
    for (int i = 0; i < 6; i++) {
      clerk.death(byAge[i]);
    }
    Check.share("20: down to the youngest", clerk, 3, 1, 1, 1);
    Check.share("20: down to the youngest", clerk, 3, 4, 1, 1);
    Check.due("23: nobody else", clerk.heirs(2), 1);
    clerk.birth(45);
    clerk.proof(2, 7, 5);
    Check.share("20: in the midst", clerk, 7, 1, 1, 4);
    Check.share("20: in the midst", clerk, 3, 1, 3, 4);
  }

  /** The person with the highest number is dead, an heir, a parent and a child like any other. */
  private static void theLastPerson() {
    Treeclerk clerk = new Treeclerk();
    clerk.pass(100);
    for (int person = 0; person < 13; person++) {
      clerk.birth(50 + person);
    }
    clerk.birth(40);
    clerk.will(13, 0, 2);
    clerk.will(13, 12, 1);
    clerk.will(0, 13, 4);
    clerk.will(0, 1, 4);
    clerk.death(0);
    Check.share("20: by will", clerk, 13, 0, 1, 2);
    clerk.close(0);
    clerk.death(13);
    Check.share("20: by will", clerk, 12, 13, 1, 1);
    Check.share("20: as it was closed", clerk, 13, 0, 1, 2);
    Check.due("16: a claim to it", clerk.claim(12, 13), 1);
    Check.due("16: a claim to it", clerk.claim(11, 13), 2);
    Check.due("5: a claim to it is gone", clerk.death(12), 1);
    Check.due("23: no heirs", clerk.heirs(13), 0);
    clerk.close(13);
    clerk.proof(13, 11, 2);
    Check.due("14: its child", clerk.childrenOf(13), 1 << 11);
    Check.due("13: its child", clerk.parentOf(11, 0), 13);
    Check.share("20: its child", clerk, 11, 13, 1, 1);
    Check.due("25: reopened", clerk.reopenings(13), 1);
    clerk.doubt(0, 1);
    Check.due("24: dispute", clerk.disputes(13), 1);
    clerk.death(11);
    Check.share("20: it was alive", clerk, 11, 13, 1, 1);
  }

  /** A line of 14, one behind the other: all of it comes to the only one who lives. */
  private static void longestLine() {
    Treeclerk clerk = people(14);
    for (int child = 1; child < 14; child++) {
      clerk.proof(child - 1, child, 5);
      clerk.death(child - 1);
    }
    for (int dead = 0; dead < 13; dead++) {
      Check.share("20: down the line", clerk, 13, dead, 1, 1);
    }
  }

  /** Shares can become others for one person alone: where there were no heirs at all. */
  private static void onlyHeir() {
    for (int heir = 1; heir < 14; heir++) {
      Treeclerk clerk = people(14);
      clerk.death(0);
      clerk.close(0);
      clerk.proof(0, heir, 5);
      Check.share("20: the only heir", clerk, heir, 0, 1, 1);
      Check.due("25: the only heir", clerk.reopenings(0), 1);
      clerk.doubt(0, 1);
      Check.due("24: the only heir", clerk.disputes(0), 1);
    }
    Treeclerk clerk = people(3);
    clerk.death(2);
    clerk.close(2);
    clerk.proof(0, 2, 5);
    Check.share("20: the parent 0", clerk, 0, 2, 1, 1);
    Check.due("25: the parent 0", clerk.reopenings(2), 1);
  }

  private static void manyHeirs() {
    Treeclerk clerk = people(14);
    clerk.grant(0, 0, 60);
    for (int child = 1; child < 14; child++) {
      clerk.proof(0, child, 5);
    }
    clerk.death(0);
    for (int child = 13; child > 0; child--) {
      Check.due("16: a claim by each", clerk.claim(child, 0), 14 - child);
    }
    Check.due("18: thirteen", clerk.close(0), 13);
    Check.share("20: a thirteenth", clerk, 13, 0, 1, 13);
    Check.due("30: by rank", clerk.area(13), 5);
    Check.due("30: by rank", clerk.area(6), 5);
    Check.due("30: by rank", clerk.area(5), 4);
    Check.owners("28: by rank", clerk, 4, 13, 12);
    Check.owners("28: by rank", clerk, 55, 2, 1, 1, 1, 1);
    clerk.doubt(12, 5);
    Check.share("20: a twelfth", clerk, 1, 0, 1, 12);
    Check.share("20: gone", clerk, 13, 0, 0, 1);
    Check.owners("28: drawn anew", clerk, 0, 12, 12, 12, 12, 12, 11);
    clerk.judge(0, false);
    Check.share("20: a thirteenth", clerk, 13, 0, 1, 13);
    Check.due("25: twice", clerk.reopenings(0), 2);
  }

  private static void weakestDispute() {
    Treeclerk clerk = people(3);
    clerk.proof(0, 1, 3);
    clerk.death(0);
    clerk.doubt(0, 2);
    Check.due("11: just stands", clerk.strength(0), 1);
    Check.due("24: just stands", clerk.disputes(0), 1);
    clerk.doubt(0, 1);
    Check.due("24: just does not stand", clerk.disputes(0), 0);
    clerk.close(0);
    Check.due("24: closed", clerk.disputes(0), 0);
    clerk.judge(1, false);
    Check.due("24: stands again", clerk.disputes(0), 1);
  }

  private static void wrongInputs() {
    Treeclerk clerk = people(3);
    clerk.death(0);
    int[] persons = {-1, 3, 14, Integer.MAX_VALUE, Integer.MIN_VALUE};
    for (int p : persons) {
      Check.thrown("20: person", Check.INDEX, () -> clerk.shareAbove(p, 0));
      Check.thrown("20: dead", Check.INDEX, () -> clerk.shareAbove(1, p));
      Check.thrown("20: the index first", Check.INDEX, () -> clerk.shareAbove(p, 1));
      Check.thrown("21: person", Check.INDEX, () -> clerk.shareBelow(p, 0));
      Check.thrown("21: dead", Check.INDEX, () -> clerk.shareBelow(1, p));
      Check.thrown("21: the index first", Check.INDEX, () -> clerk.shareBelow(p, 1));
      Check.thrown("22: person", Check.INDEX, () -> clerk.shareAboveByWays(p, 0));
      Check.thrown("22: dead", Check.INDEX, () -> clerk.shareAboveByWays(1, p));
      Check.thrown("22: the index first", Check.INDEX, () -> clerk.shareAboveByWays(p, 1));
      Check.thrown("23: dead", Check.INDEX, () -> clerk.heirs(p));
      Check.thrown("24: dead", Check.INDEX, () -> clerk.disputes(p));
      Check.thrown("25: dead", Check.INDEX, () -> clerk.reopenings(p));
    }
    Check.thrown("20: alive", Check.STATE, () -> clerk.shareAbove(2, 1));
    Check.thrown("21: alive", Check.STATE, () -> clerk.shareBelow(2, 1));
    Check.thrown("22: alive", Check.STATE, () -> clerk.shareAboveByWays(2, 1));
    Check.thrown("23: alive", Check.STATE, () -> clerk.heirs(1));
    Check.thrown("24: alive", Check.STATE, () -> clerk.disputes(1));
  }
}
