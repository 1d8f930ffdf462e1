/**
 * Later calls of every kind. Whatever a refused call left behind would show in one of them: in what
 * is told of people, kin, shares and land, or in what may be done yet and what comes of it.
 */
final class Later {
  /** How many kinds there are; each is for an object of its own, for its calls are counted. */
  static final int KINDS = 11;

  private Later() {}

  static void play(int kind, Player player) {
    switch (kind) {
      case 0 -> askOfPeople(player);
      case 1 -> askOfLand(player);
      case 2 -> fileProofsAndDoubts(player);
      case 3 -> setWills(player);
      case 4 -> claimAndClose(player);
      case 5 -> grantAndHand(player);
      case 6 -> passAndDie(player);
      default -> askOfShares(player, 4 * (kind - 7));
    }
  }

  private static void askOfPeople(Player player) {
    player.play("today");
    player.play("openDoubts");
    int people = player.ask("people");
    for (int person = 0; person < people; person++) {
      player.play("isAlive", person);
      player.play("parentOf", person, 0);
      player.play("parentOf", person, 1);
      player.play("childrenOf", person);
      player.play("claims", person);
      player.play("isClosed", person);
      player.play("reopenings", person);
      player.play("area", person);
    }
    for (int proof = 0; proof <= 30; proof++) {
      player.play("strength", proof);
    }
  }

  private static void askOfLand(Player player) {
    player.play("parcels");
    for (int unit = 0; unit < 60; unit++) {
      player.play("owner", unit);
      player.play("ownerAnew", unit);
      player.play("parcelAt", unit);
    }
  }

  private static void askOfShares(Player player, int first) {
    int people = player.ask("people");
    for (int dead = first; dead < first + 4 && dead < people; dead++) {
      player.play("heirs", dead);
      player.play("disputes", dead);
      for (int person = 0; person < people; person++) {
        player.play("shareAbove", person, dead);
        player.play("shareBelow", person, dead);
        player.play("shareAboveByWays", person, dead);
      }
    }
  }

  private static void fileProofsAndDoubts(Player player) {
    int people = player.ask("people");
    for (int parent = 0; parent < people; parent++) {
      for (int child = people - 1; child > parent; child--) {
        player.play("proof", parent, child, 9);
      }
    }
    for (int proof = 0; proof <= 30; proof++) {
      player.play("doubt", proof, 1);
    }
    for (int doubt = 0; doubt <= 30; doubt++) {
      player.play("judge", doubt, doubt % 2);
    }
    player.play("openDoubts");
    for (int person = 0; person < people; person++) {
      player.play("childrenOf", person);
      player.play("reopenings", person);
    }
    for (int unit = 0; unit < 60; unit += 5) {
      player.play("owner", unit);
      player.play("ownerAnew", unit);
    }
  }

  private static void setWills(Player player) {
    int people = player.ask("people");
    for (int person = 0; person < people; person++) {
      for (int heir = 0; heir < people; heir++) {
        player.play("will", person, heir, 3);
      }
    }
  }

  private static void claimAndClose(Player player) {
    int people = player.ask("people");
    for (int dead = 0; dead < people; dead++) {
      if (player.ask("isAlive", dead) == 0) {
        for (int person = people - 1; person >= 0; person--) {
          player.play("claim", person, dead);
        }
        player.play("close", dead);
      }
    }
    for (int unit = 0; unit < 60; unit += 7) {
      player.play("owner", unit);
    }
  }

  private static void grantAndHand(Player player) {
    int people = player.ask("people");
    int someone = -1;
    int other = -1;
    for (int person = 0; person < people; person++) {
      if (player.ask("isAlive", person) == 1) {
        other = someone;
        someone = person;
      }
    }
    for (int unit = 0; unit < 60; unit++) {
      player.play("grant", someone, unit, unit + 1);
    }
    for (int handing = 0; handing < 31; handing++) {
      player.play("hand", someone, other, 0, 60);
      player.play("hand", other, someone, 0, 60);
    }
    for (int unit = 0; unit < 60; unit++) {
      player.play("owner", unit);
    }
  }

  private static void passAndDie(Player player) {
    while (player.ask("pass", 100) > 0) {
      player.play("birth", player.ask("today"));
    }
    player.play("pass", 1);
    int people = player.ask("people");
    for (int person = 0; person < people; person++) {
      player.play("death", person);
      player.play("claims", person);
      player.play("close", person);
      player.play("area", person);
    }
    player.play("parcels");
  }
}
