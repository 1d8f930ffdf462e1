/** Promises 1 to 7: a new object, people and days. */
public final class PeopleTest {
  public static void main(String[] args) {
    newObject();
    pass();
    birth();
    death();
    deathTakesClaims();
    noSuchPerson();
    Check.finish();
  }

  private static void newObject() {
    Treeclerk clerk = new Treeclerk();
    Check.due("1: NONE", Treeclerk.NONE, -1);
    Check.due("1: today", clerk.today(), 0);
    Check.due("1: people", clerk.people(), 0);
    Check.due("1: openDoubts", clerk.openDoubts(), 0);
    Check.due("1: parcels", clerk.parcels(), 0);
    for (int unit = 0; unit < 60; unit++) {
      Check.owners("1: new", clerk, unit, -1);
    }
    Check.thrown("1: nobody", Check.INDEX, () -> clerk.death(0));
    new Treeclerk().pass(5);
    Check.due("1: another object's day", clerk.today(), 0);
  }

  private static void pass() {
    Treeclerk clerk = new Treeclerk();
    Check.due("2: pass 1", clerk.pass(1), 1);
    Check.due("2: pass 99", clerk.pass(99), 100);
    Check.due("3: today", clerk.today(), 100);
    int[] wrong = {0, -1, 101, Integer.MAX_VALUE, Integer.MIN_VALUE};
    for (int days : wrong) {
      Check.thrown("2: pass " + days, Check.ARGUMENT, () -> clerk.pass(days));
    }
    for (int i = 2; i <= 19; i++) {
      Check.due("2: pass 100", clerk.pass(100), 100 * i);
    }
    Check.due("2: pass to 1999", clerk.pass(99), 1999);
    Check.thrown("2: pass to 2001", Check.STATE, () -> clerk.pass(2));
    Check.due("2: pass to 2000", clerk.pass(1), 2000);
    Check.thrown("2: pass to 2001", Check.STATE, () -> clerk.pass(1));
    Check.thrown("2: the argument first", Check.ARGUMENT, () -> clerk.pass(101));
    Check.due("3: today at last", clerk.today(), 2000);
  }

  private static void birth() {
    Treeclerk clerk = new Treeclerk();
    Check.due("4: on day 0", clerk.birth(0), 0);
    Check.thrown("4: tomorrow", Check.ARGUMENT, () -> clerk.birth(1));
    clerk.pass(10);
    Check.due("4: late", clerk.birth(3), 1);
    Check.due("4: today", clerk.birth(10), 2);
    Check.thrown("4: before day 0", Check.ARGUMENT, () -> clerk.birth(-1));
    Check.thrown("4: tomorrow", Check.ARGUMENT, () -> clerk.birth(11));
    Check.thrown("4: far", Check.ARGUMENT, () -> clerk.birth(Integer.MAX_VALUE));
    Check.due("6: people", clerk.people(), 3);
    for (int person = 3; person < 14; person++) {
      Check.due("4: number", clerk.birth(5), person);
    }
    Check.due("6: fourteen", clerk.people(), 14);
    Check.thrown("4: a fifteenth", Check.STATE, () -> clerk.birth(5));
    Check.thrown("4: the argument first", Check.ARGUMENT, () -> clerk.birth(11));
    clerk.death(0);
    Check.due("6: the dead count", clerk.people(), 14);
    Check.thrown("4: the dead keep numbers", Check.STATE, () -> clerk.birth(5));
    Check.due("4: the day of birth counts", clerk.proof(0, 1, 1), 0);
    Check.due("4: the day of birth counts", clerk.proof(1, 3, 1), 1);
    Check.thrown("4: born on the same day", Check.ARGUMENT, () -> clerk.proof(3, 4, 1));
  }

  private static void death() {
    Treeclerk clerk = new Treeclerk();
    clerk.birth(0);
    clerk.birth(0);
    Check.due("7: alive", clerk.isAlive(0), true);
    Check.due("5: death", clerk.death(0), 0);
    Check.due("7: dead", clerk.isAlive(0), false);
    Check.due("7: the other one", clerk.isAlive(1), true);
    Check.thrown("5: dead already", Check.STATE, () -> clerk.death(0));
  }

  private static void deathTakesClaims() {
    Treeclerk clerk = new Treeclerk();
    for (int person = 0; person < 6; person++) {
      clerk.birth(0);
    }
    for (int dead = 0; dead < 3; dead++) {
      clerk.death(dead);
      clerk.claim(4, dead);
      clerk.claim(3, dead);
    }
    clerk.claim(5, 1);
    clerk.close(0);
    Check.due("5: claims to what is not closed", clerk.death(4), 2);
    Check.due("17: closed keeps its claims", clerk.claims(0), 2);
    Check.due("17: claims left", clerk.claims(1), 2);
    Check.due("17: claims left", clerk.claims(2), 1);
    Check.thrown("16: who stands yet", Check.STATE, () -> clerk.claim(3, 1));
    Check.thrown("16: who stands yet", Check.STATE, () -> clerk.claim(5, 1));
    Check.due("5: another's claims", clerk.death(5), 1);
    Check.due("17: claims left", clerk.claims(1), 1);
    clerk.close(1);
    Check.due("5: only what is not closed", clerk.death(3), 1);
    Check.due("17: as it was when closed", clerk.claims(1), 1);
    Check.due("17: no claims left", clerk.claims(2), 0);
  }

  private static void noSuchPerson() {
    Treeclerk clerk = new Treeclerk();
    clerk.birth(0);
    int[] wrong = {-1, 1, 13, 14, Integer.MAX_VALUE, Integer.MIN_VALUE};
    for (int person : wrong) {
      Check.thrown("5: death " + person, Check.INDEX, () -> clerk.death(person));
      Check.thrown("7: isAlive " + person, Check.INDEX,
          () -> clerk.isAlive(person) ? 1 : 0);
    }
  }
}
