/** Promises 8 to 14: proofs, doubts, parents and children. */
public final class KinTest {
  public static void main(String[] args) {
    proof();
    proofsAreThirty();
    doubt();
    doubtsAreThirty();
    judgeNotUpheld();
    judgeUpheld();
    judgeMovesLand();
    parents();
    children();
    Check.finish();
  }

  /** The person p is born on the day p, but the last two on one day. */
  private static Treeclerk family(int people) {
    Treeclerk clerk = new Treeclerk();
    clerk.pass(100);
    for (int person = 0; person < people; person++) {
      clerk.birth(person == people - 1 ? person - 1 : person);
    }
    return clerk;
  }

  private static void proof() {
    Treeclerk clerk = family(4);
    Check.due("8: first", clerk.proof(0, 1, 9), 0);
    Check.due("8: second", clerk.proof(0, 2, 1), 1);
    Check.due("8: the same again", clerk.proof(0, 2, 1), 2);
    Check.due("11: strength", clerk.strength(0), 9);
    Check.due("11: strength", clerk.strength(1), 1);
    int[] persons = {-1, 4, 14, Integer.MAX_VALUE, Integer.MIN_VALUE};
    for (int person : persons) {
      Check.thrown("8: parent", Check.INDEX, () -> clerk.proof(person, 1, 1));
      Check.thrown("8: child", Check.INDEX, () -> clerk.proof(0, person, 1));
      Check.thrown("8: the index first", Check.INDEX, () -> clerk.proof(0, person, 0));
    }
    int[] weights = {0, 10, -1, Integer.MAX_VALUE, Integer.MIN_VALUE};
    for (int weight : weights) {
      Check.thrown("8: weight", Check.ARGUMENT, () -> clerk.proof(0, 1, weight));
    }
    Check.thrown("8: older child", Check.ARGUMENT, () -> clerk.proof(1, 0, 5));
    Check.thrown("8: child of the same day", Check.ARGUMENT, () -> clerk.proof(2, 3, 5));
    Check.thrown("8: its own child", Check.ARGUMENT, () -> clerk.proof(1, 1, 5));
    clerk.death(0);
    clerk.death(3);
    Check.due("8: among the dead", clerk.proof(0, 3, 5), 3);
    int[] proofs = {-1, 4, 29, 30, Integer.MAX_VALUE, Integer.MIN_VALUE};
    for (int number : proofs) {
      Check.thrown("11: no proof", Check.INDEX, () -> clerk.strength(number));
    }
  }

  private static void proofsAreThirty() {
    Treeclerk clerk = family(3);
    for (int number = 0; number < 30; number++) {
      Check.due("8: number", clerk.proof(0, 1, 1), number);
    }
    clerk.doubt(0, 1);
    clerk.judge(0, true);
    Check.thrown("8: a 31st", Check.STATE, () -> clerk.proof(0, 1, 1));
    Check.thrown("8: the weight first", Check.ARGUMENT, () -> clerk.proof(0, 1, 10));
    Check.thrown("8: the days first", Check.ARGUMENT, () -> clerk.proof(1, 0, 1));
    Check.thrown("8: the index first", Check.INDEX, () -> clerk.proof(3, 0, 1));
    Check.due("11: the last one", clerk.strength(29), 1);
  }

  private static void doubt() {
    Treeclerk clerk = family(3);
    clerk.proof(0, 1, 5);
    Check.due("9: first", clerk.doubt(0, 1), 0);
    Check.due("11: strength", clerk.strength(0), 4);
    Check.due("9: second", clerk.doubt(0, 3), 1);
    Check.due("11: strength", clerk.strength(0), 1);
    Check.due("14: stands yet", clerk.childrenOf(0), 2);
    Check.due("9: third", clerk.doubt(0, 9), 2);
    Check.due("11: never below 0", clerk.strength(0), 0);
    Check.due("14: does not stand", clerk.childrenOf(0), 0);
    Check.due("9: not fallen yet", clerk.doubt(0, 1), 3);
    Check.due("12: openDoubts", clerk.openDoubts(), 4);
    int[] proofs = {-1, 1, 30, Integer.MAX_VALUE, Integer.MIN_VALUE};
    for (int number : proofs) {
      Check.thrown("9: no proof", Check.INDEX, () -> clerk.doubt(number, 1));
      Check.thrown("9: the index first", Check.INDEX, () -> clerk.doubt(number, 0));
    }
    int[] weights = {0, 10, -1, Integer.MAX_VALUE, Integer.MIN_VALUE};
    for (int weight : weights) {
      Check.thrown("9: weight", Check.ARGUMENT, () -> clerk.doubt(0, weight));
    }
    clerk.judge(2, true);
    Check.due("12: earlier and later doubts are gone", clerk.openDoubts(), 0);
    Check.thrown("9: fallen", Check.STATE, () -> clerk.doubt(0, 1));
    Check.thrown("9: the argument first", Check.ARGUMENT, () -> clerk.doubt(0, 10));
  }

  private static void doubtsAreThirty() {
    Treeclerk clerk = family(3);
    clerk.proof(0, 1, 5);
    clerk.proof(0, 2, 5);
    for (int number = 0; number < 30; number++) {
      Check.due("9: number", clerk.doubt(number % 2, 1), number);
    }
    Check.due("12: thirty", clerk.openDoubts(), 30);
    Check.thrown("9: a 31st", Check.STATE, () -> clerk.doubt(0, 1));
    clerk.judge(29, false);
    Check.thrown("9: the judged count", Check.STATE, () -> clerk.doubt(0, 1));
    Check.thrown("9: the argument first", Check.ARGUMENT, () -> clerk.doubt(0, 10));
    Check.thrown("9: the index first", Check.INDEX, () -> clerk.doubt(2, 10));
    Check.due("12: one less", clerk.openDoubts(), 29);
  }

  private static void judgeNotUpheld() {
    Treeclerk clerk = family(3);
    clerk.proof(0, 1, 5);
    clerk.doubt(0, 3);
    clerk.doubt(0, 4);
    Check.due("10: no land", clerk.judge(0, false), 0);
    Check.due("11: the other doubt stays", clerk.strength(0), 1);
    Check.due("12: one open", clerk.openDoubts(), 1);
    Check.thrown("10: judged", Check.STATE, () -> clerk.judge(0, true));
    Check.thrown("10: judged", Check.STATE, () -> clerk.judge(0, false));
    int[] doubts = {-1, 2, 30, Integer.MAX_VALUE, Integer.MIN_VALUE};
    for (int number : doubts) {
      Check.thrown("10: no doubt", Check.INDEX, () -> clerk.judge(number, true));
    }
    clerk.judge(1, false);
    Check.due("11: full strength", clerk.strength(0), 5);
    Check.due("12: none open", clerk.openDoubts(), 0);
  }

  private static void judgeUpheld() {
    Treeclerk clerk = family(3);
    clerk.proof(0, 1, 5);
    clerk.proof(0, 2, 5);
    clerk.doubt(0, 1);
    clerk.doubt(1, 2);
    clerk.doubt(0, 1);
    clerk.judge(0, true);
    Check.due("11: fallen", clerk.strength(0), 0);
    Check.due("11: the other proof", clerk.strength(1), 3);
    Check.due("12: doubts against it are gone", clerk.openDoubts(), 1);
    Check.thrown("10: gone with the proof", Check.STATE, () -> clerk.judge(2, false));
    Check.due("14: one child left", clerk.childrenOf(0), 4);
    clerk.proof(0, 1, 2);
    Check.due("14: proved again", clerk.childrenOf(0), 6);
  }

  private static void judgeMovesLand() {
    Treeclerk clerk = family(5);
    clerk.grant(0, 0, 10);
    clerk.grant(0, 30, 31);
    clerk.proof(0, 1, 5);
    clerk.proof(0, 2, 5);
    clerk.death(0);
    clerk.close(0);
    Check.owners("10: before", clerk, 4, 1, 1, 2, 2, 2, 2, -1);
    clerk.doubt(0, 1);
    clerk.doubt(1, 1);
    Check.due("10: to another person", clerk.judge(0, true), 6);
    Check.due("10: to nobody", clerk.judge(1, true), 11);
    Check.owners("10: nobody's", clerk, 0, -1, -1);
    clerk.proof(0, 1, 1);
    clerk.doubt(2, 1);
    Check.owners("10: does not stand", clerk, 0, -1, -1);
    Check.due("10: not to nobody any more", clerk.judge(2, false), 11);
    clerk.doubt(2, 1);
    Check.due("10: fell before by the doubt", clerk.judge(3, true), 0);
  }

  private static void parents() {
    Treeclerk clerk = family(7);
    Check.due("13: none", clerk.parentOf(5, 0), -1);
    Check.due("13: none", clerk.parentOf(5, 1), -1);
    clerk.proof(3, 5, 4);
    Check.due("13: one", clerk.parentOf(5, 0), 3);
    Check.due("13: no second", clerk.parentOf(5, 1), -1);
    clerk.proof(3, 5, 3);
    Check.due("13: the same is no second", clerk.parentOf(5, 1), -1);
    clerk.proof(2, 5, 4);
    Check.due("13: lower ahead", clerk.parentOf(5, 0), 2);
    Check.due("13: lower ahead", clerk.parentOf(5, 1), 3);
    clerk.proof(1, 5, 3);
    Check.due("13: a weaker third", clerk.parentOf(5, 1), 3);
    clerk.proof(1, 5, 5);
    Check.due("13: the strongest proof counts", clerk.parentOf(5, 0), 1);
    Check.due("13: the strongest proof counts", clerk.parentOf(5, 1), 2);
    Check.due("14: pushed out", clerk.childrenOf(3), 0);
    clerk.doubt(2, 3);
    Check.due("13: by strength, not weight", clerk.parentOf(5, 1), 3);
    clerk.proof(0, 5, 4);
    Check.due("13: lower ahead of equals", clerk.parentOf(5, 1), 0);
    clerk.doubt(4, 9);
    Check.due("13: two equals", clerk.parentOf(5, 0), 0);
    Check.due("13: two equals", clerk.parentOf(5, 1), 3);
    Check.due("13: of others none", clerk.parentOf(6, 0), -1);
    int[] places = {-1, 2, Integer.MAX_VALUE, Integer.MIN_VALUE};
    for (int place : places) {
      Check.thrown("13: place", Check.ARGUMENT, () -> clerk.parentOf(5, place));
      Check.thrown("13: the index first", Check.INDEX, () -> clerk.parentOf(7, place));
    }
    Check.thrown("13: no person", Check.INDEX, () -> clerk.parentOf(-1, 0));
  }

  private static void children() {
    Treeclerk clerk = family(14);
    Check.due("14: none", clerk.childrenOf(0), 0);
    for (int child = 1; child < 14; child++) {
      clerk.proof(0, child, 2);
    }
    Check.due("14: thirteen", clerk.childrenOf(0), 0x3ffe);
    clerk.proof(1, 12, 3);
    clerk.proof(2, 12, 2);
    clerk.proof(3, 12, 9);
    Check.due("14: pushed out by two stronger", clerk.childrenOf(0), 0x2ffe);
    Check.due("14: first parent", clerk.childrenOf(3), 0x1000);
    Check.due("14: second parent", clerk.childrenOf(1), 0x1000);
    Check.due("14: fourth", clerk.childrenOf(2), 0);
    Check.thrown("14: no person", Check.INDEX, () -> clerk.childrenOf(14));
    Check.thrown("14: no person", Check.INDEX, () -> clerk.childrenOf(-1));
  }
}
