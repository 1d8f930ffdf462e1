/** Promises 15 to 19: wills, claims and closings. */
public final class EstateTest {
  public static void main(String[] args) {
    will();
    claim();
    claimThrows();
    close();
    Check.finish();
  }

  private static Treeclerk people(int people) {
    Treeclerk clerk = new Treeclerk();
    clerk.pass(100);
    for (int person = 0; person < people; person++) {
      clerk.birth(10 * person);
    }
    return clerk;
  }

  private static void will() {
    Treeclerk clerk = people(4);
    Check.due("15: 0 at first", clerk.will(0, 1, 9), 0);
    Check.due("15: the weight before", clerk.will(0, 1, 4), 9);
    Check.due("15: each heir its own", clerk.will(0, 2, 1), 0);
    Check.due("15: each will its own", clerk.will(1, 0, 2), 0);
    int[] persons = {-1, 4, 14, Integer.MAX_VALUE, Integer.MIN_VALUE};
    for (int person : persons) {
      Check.thrown("15: person", Check.INDEX, () -> clerk.will(person, 1, 1));
      Check.thrown("15: heir", Check.INDEX, () -> clerk.will(0, person, 1));
      Check.thrown("15: the index first", Check.INDEX, () -> clerk.will(person, person, 10));
    }
    int[] weights = {-1, 10, Integer.MAX_VALUE, Integer.MIN_VALUE};
    for (int weight : weights) {
      Check.thrown("15: weight", Check.ARGUMENT, () -> clerk.will(0, 1, weight));
    }
    Check.thrown("15: the same", Check.ARGUMENT, () -> clerk.will(0, 0, 1));
    Check.due("15: what threw set nothing", clerk.will(0, 1, 0), 4);
    Check.due("15: back to 0", clerk.will(0, 1, 3), 0);
    clerk.death(3);
    Check.due("15: a dead heir", clerk.will(0, 3, 5), 0);
    clerk.death(0);
    Check.thrown("15: the dead", Check.STATE, () -> clerk.will(0, 1, 1));
    Check.thrown("15: the weight first", Check.ARGUMENT, () -> clerk.will(0, 1, 10));
    Check.thrown("15: the same first", Check.ARGUMENT, () -> clerk.will(0, 0, 1));
    Check.share("15: what stands", clerk, 1, 0, 3, 4);
    Check.share("15: what stands", clerk, 2, 0, 1, 4);
    Check.share("15: a dead heir gets nothing", clerk, 3, 0, 0, 1);
  }

  private static void claim() {
    Treeclerk clerk = people(5);
    clerk.grant(0, 0, 4);
    for (int heir = 1; heir < 5; heir++) {
      clerk.proof(0, heir, 5);
    }
    Check.due("17: 0 for the living", clerk.claims(0), 0);
    clerk.death(0);
    Check.due("17: none yet", clerk.claims(0), 0);
    Check.due("16: first", clerk.claim(3, 0), 1);
    Check.due("16: second", clerk.claim(1, 0), 2);
    Check.due("17: two", clerk.claims(0), 2);
    clerk.death(1);
    Check.due("17: gone by death", clerk.claims(0), 1);
    Check.due("16: behind it", clerk.claim(4, 0), 2);
    clerk.close(0);
    Check.owners("16: by the order of filing", clerk, 0, 3, 3, 4, 2);
    Check.due("17: as at the closing", clerk.claims(0), 2);
    Check.due("17: of another one", clerk.claims(1), 0);
    int[] persons = {-1, 5, 14, Integer.MAX_VALUE, Integer.MIN_VALUE};
    for (int person : persons) {
      Check.thrown("17: no person", Check.INDEX, () -> clerk.claims(person));
      Check.thrown("16: no person", Check.INDEX, () -> clerk.claim(person, 0));
      Check.thrown("16: no person", Check.INDEX, () -> clerk.claim(2, person));
    }
  }

  private static void claimThrows() {
    Treeclerk clerk = people(5);
    Check.thrown("16: of the living", Check.STATE, () -> clerk.claim(1, 0));
    clerk.death(0);
    Check.thrown("16: by the dead", Check.STATE, () -> clerk.claim(0, 0));
    clerk.claim(1, 0);
    Check.thrown("16: filed before", Check.STATE, () -> clerk.claim(1, 0));
    clerk.death(2);
    Check.thrown("16: by the dead", Check.STATE, () -> clerk.claim(2, 0));
    Check.due("16: to another estate", clerk.claim(1, 2), 1);
    Check.due("16: no heir need it be", clerk.claim(4, 0), 2);
    clerk.close(0);
    Check.thrown("16: closed", Check.STATE, () -> clerk.claim(3, 0));
    Check.due("16: the other one is not", clerk.claim(3, 2), 2);
  }

  private static void close() {
    Treeclerk clerk = people(4);
    clerk.proof(0, 1, 1);
    clerk.proof(0, 2, 1);
    Check.due("19: alive", clerk.isClosed(0), false);
    Check.thrown("18: alive", Check.STATE, () -> clerk.close(0));
    clerk.death(0);
    Check.due("19: not yet", clerk.isClosed(0), false);
    Check.due("18: two heirs", clerk.close(0), 2);
    Check.due("19: closed", clerk.isClosed(0), true);
    Check.due("19: the other one", clerk.isClosed(1), false);
    Check.thrown("18: once", Check.STATE, () -> clerk.close(0));
    clerk.death(3);
    Check.due("18: no heirs", clerk.close(3), 0);
    int[] persons = {-1, 4, 14, Integer.MAX_VALUE, Integer.MIN_VALUE};
    for (int person : persons) {
      Check.thrown("18: no person", Check.INDEX, () -> clerk.close(person));
      Check.thrown("19: no person", Check.INDEX, () -> clerk.isClosed(person) ? 1 : 0);
    }
  }
}
