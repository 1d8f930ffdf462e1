/** All that an object can be asked, as one text, to see that a call changed nothing. */
final class Answers {
  private Answers() {}

  static String of(Treeclerk clerk) {
    StringBuilder all = new StringBuilder();
    all.append(clerk.today()).append(' ').append(clerk.people()).append(' ')
        .append(clerk.openDoubts()).append(' ').append(clerk.parcels()).append('\n');
    for (int person = 0; person < clerk.people(); person++) {
      all.append(clerk.isAlive(person)).append(' ').append(clerk.parentOf(person, 0)).append(' ')
          .append(clerk.parentOf(person, 1)).append(' ').append(clerk.childrenOf(person))
          .append(' ').append(clerk.claims(person)).append(' ').append(clerk.isClosed(person))
          .append(' ').append(clerk.reopenings(person)).append(' ').append(clerk.area(person));
      if (!clerk.isAlive(person)) {
        addShares(all, clerk, person);
      }
      all.append('\n');
    }
    addStrengths(all, clerk);
    for (int unit = 0; unit < 60; unit++) {
      all.append(clerk.owner(unit)).append(' ').append(clerk.ownerAnew(unit)).append(' ');
    }
    return all.toString();
  }

  private static void addShares(StringBuilder all, Treeclerk clerk, int dead) {
    all.append(' ').append(clerk.heirs(dead)).append(' ').append(clerk.disputes(dead));
    for (int person = 0; person < clerk.people(); person++) {
      all.append(' ').append(clerk.shareAbove(person, dead)).append('/')
          .append(clerk.shareBelow(person, dead)).append('=')
          .append(clerk.shareAboveByWays(person, dead));
    }
  }

  private static void addStrengths(StringBuilder all, Treeclerk clerk) {
    for (int proof = 0; proof < 31; proof++) {
      try {
        all.append(clerk.strength(proof)).append(' ');
      } catch (IndexOutOfBoundsException e) {
        all.append("and no more\n");
        return;
      }
    }
  }
}
