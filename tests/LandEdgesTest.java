/** The edges of promises 26 to 32: grants, handings, drawn boundaries, owners and parcels. */
public final class LandEdgesTest {
  private static final String ALL_GRANTED = Edges.people(3) + "grant 0 0 60\n";
  private static final String SIXTY_HANDINGS =
      ALL_GRANTED + Edges.times(30, "hand 0 1 0 60 = 60; hand 1 0 0 60 = 60");
  /** Ends of from and to that are out of range. */
  private static final String[] WRONG_UNITS = {
    "-1 5", "60 61", "60 60", "61 62", "MIN 5", "MAX 60", "MAX MIN", "MIN MIN", "0 0", "5 5", "5 4",
    "5 -1", "59 59", "5 61", "0 61", "59 61", "5 MAX", "5 MIN", "-1 61", "-1 0", "-1 60"
  };

  public static void main(String[] args) {
    grant();
    grantThrows();
    grantThrowsTheFirst();
    hand();
    handThrows();
    sixtyHandings();
    handThrowsTheFirst();
    drawn();
    drawnByRank();
    withoutHeirs();
    drawnAnew();
    inTheirOrder();
    area();
    parcels();
    parcelAt();
    Edges.finish(26, 32);
  }

  private static void grant() {
    String two = Edges.people(2);
    Edges.edge("26 grant: from 0 to 1", two + "grant 0 0 1 = 1\n" + Edges.owners(0, 0, -1));
    Edges.edge("26 grant: from 59 to 60", two + "grant 0 59 60 = 1\n" + Edges.owners(58, -1, 0));
    Edges.edge("26 grant: from 0 to 60, all of it",
        two + "grant 1 0 60 = 60" + Edges.each(0, 60, u -> "\nowner " + u + " = 1"));
    Edges.edge("26 grant: from 0 to 59", two + "grant 0 0 59 = 59\n" + Edges.owners(58, 0, -1));
    Edges.edge("26 grant: from 1 to 60",
        two + "grant 0 1 60 = 59\n" + Edges.owners(0, -1, 0) + Edges.owners(59, 0));
    Edges.edge("26 grant: in the midst",
        two + "grant 0 29 31 = 2\n" + Edges.owners(28, -1, 0, 0, -1));
    Edges.edge("26 grant: unit by unit, 60 grants", two
        + Edges.each(0, 60, u -> "grant " + u % 2 + " " + u + " " + (u + 1) + " = 1")
        + "area 0 = 30; area 1 = 30; parcels = 60");
    Edges.edge("26 grant: just beside what was granted", two
        + "grant 0 20 30; grant 1 19 20 = 1; grant 1 30 31 = 1\n" + Edges.owners(19, 1, 0)
        + Edges.owners(29, 0, 1));
    Edges.edge("26 grant: between what was granted",
        two + "grant 0 0 20; grant 0 40 60; grant 1 20 40 = 20; area 0 = 40; area 1 = 20");
    Edges.edge("26 grant: to the last living", two + "death 0; grant 1 0 60 = 60");
  }

  private static void grantThrows() {
    for (String units : WRONG_UNITS) {
      Edges.edge("26 grant: units " + units, Edges.people(2) + "grant 0 " + units
          + " ! argument; area 0 = 0; grant 0 0 60 = 60");
    }
    Edges.edge("26 grant: the person is dead",
        Edges.people(2) + "death 0; grant 0 0 5 ! state; area 0 = 0; grant 1 0 5 = 5");
    Edges.edge("26 grant: the first unit was granted before", Edges.people(2)
        + "grant 0 5 10; grant 1 9 12 ! state; area 1 = 0; grant 1 10 12 = 2");
    Edges.edge("26 grant: the last unit was granted before", Edges.people(2)
        + "grant 0 5 10; grant 1 3 6 ! state; area 1 = 0; grant 1 3 5 = 2");
    Edges.edge("26 grant: a unit in the midst was granted before",
        Edges.people(2) + "grant 0 30 31; grant 1 0 60 ! state; area 1 = 0; grant 1 0 30 = 30");
    Edges.edge("26 grant: unit 0 was granted before",
        Edges.people(2) + "grant 0 0 1; grant 1 0 60 ! state; area 1 = 0; grant 1 1 60 = 59");
    Edges.edge("26 grant: unit 59 was granted before",
        Edges.people(2) + "grant 0 59 60; grant 1 0 60 ! state; area 1 = 0; grant 1 0 59 = 59");
    Edges.edge("26 grant: granted before to the same",
        Edges.people(2) + "grant 0 0 5; grant 0 0 5 ! state; area 0 = 5");
    Edges.edge("26 grant: granted before, and handed on since",
        Edges.people(3) + "grant 0 0 5; hand 0 1 0 5; grant 0 0 5 ! state; area 0 = 0");
    Edges.edge("26 grant: granted before, and nobody's since", Edges.people(2)
        + "grant 0 0 5; death 0; close 0; owner 0 = NONE; grant 1 4 6 ! state; area 1 = 0");
    Edges.edge("26 grant: all was granted before", ALL_GRANTED
        + Edges.each(0, 60, u -> "grant 1 " + u + " " + (u + 1) + " ! state") + "area 1 = 0");
    Edges.edge("26 grant: nobody is there", "grant 0 0 60 ! index");
  }

  private static void grantThrowsTheFirst() {
    Edges.edge("26 grant: no person and from -1, the index is first",
        Edges.people(2) + "grant 2 -1 5 ! index; grant -1 -1 5 ! index");
    Edges.edge("26 grant: no person and to 61, the index is first",
        Edges.people(2) + "grant 2 5 61 ! index; grant -1 5 5 ! index");
    Edges.edge("26 grant: no person and granted before, the index is first",
        ALL_GRANTED + "grant 3 0 5 ! index; grant -1 0 5 ! index");
    Edges.edge("26 grant: out of range and the person is dead, the argument is first",
        Edges.people(2) + "death 0; grant 0 5 5 ! argument; grant 0 -1 5 ! argument\n"
            + "grant 0 5 61 ! argument");
    Edges.edge("26 grant: out of range and granted before, the argument is first",
        ALL_GRANTED + "grant 1 0 61 ! argument; grant 1 -1 60 ! argument; grant 1 5 5 ! argument");
    Edges.edge("26 grant: dead and granted before",
        Edges.people(2) + "grant 0 0 5; death 0; grant 0 0 5 ! state; area 0 = 5");
    Edges.edge("26 grant: no person, out of range and granted before, the index is first",
        ALL_GRANTED + "death 0; grant 3 0 61 ! index");
    Edges.edge("26 grant: out of range, dead and granted before, the argument is first",
        ALL_GRANTED + "death 0; grant 0 0 61 ! argument");
  }

  private static void hand() {
    Edges.edge("27 hand: from 0 to 1", ALL_GRANTED + "hand 0 1 0 1 = 1\n" + Edges.owners(0, 1, 0));
    Edges.edge("27 hand: from 59 to 60",
        ALL_GRANTED + "hand 0 1 59 60 = 1\n" + Edges.owners(58, 0, 1));
    Edges.edge("27 hand: from 0 to 60, all of it", ALL_GRANTED
        + "hand 0 1 0 60 = 60; area 0 = 0" + Edges.each(0, 60, u -> "\nowner " + u + " = 1"));
    Edges.edge("27 hand: in the midst",
        ALL_GRANTED + "hand 0 1 29 31 = 2\n" + Edges.owners(28, 0, 1, 1, 0));
    Edges.edge("27 hand: only one of the units belongs to it", Edges.people(3)
        + "grant 0 30 31; grant 1 0 30; grant 1 31 60; hand 0 2 0 60 = 1\n"
        + Edges.owners(29, 1, 2, 1));
    Edges.edge("27 hand: units of nobody stay nobody's", Edges.people(2)
        + "grant 0 2 3; hand 0 1 0 60 = 1\n" + Edges.owners(1, -1, 1, -1));
    Edges.edge("27 hand: only the first of the units",
        Edges.people(2) + "grant 0 0 1; hand 0 1 0 60 = 1\n" + Edges.owners(0, 1));
    Edges.edge("27 hand: only the last of the units",
        Edges.people(2) + "grant 0 59 60; hand 0 1 0 60 = 1\n" + Edges.owners(59, 1));
    Edges.edge("27 hand: back on the same day",
        ALL_GRANTED + "hand 0 1 0 9 = 9; hand 1 0 0 9 = 9; area 0 = 60; area 1 = 0");
    Edges.edge("27 hand: the first and the last of 14", Edges.people(14)
        + "grant 13 0 5; hand 13 0 0 5 = 5; hand 0 13 2 60 = 3; area 0 = 2; area 13 = 3");
    Edges.edge("27 hand: what was drawn", Edges.people(3)
        + "grant 0 0 4; proof 0 1 5; death 0; close 0; hand 1 2 1 3 = 2\n"
        + Edges.owners(0, 1, 2, 2, 1));
  }

  private static void handThrows() {
    for (String units : WRONG_UNITS) {
      Edges.edge("27 hand: units " + units,
          ALL_GRANTED + "hand 0 1 " + units + " ! argument; area 0 = 60; hand 0 1 0 60 = 60");
    }
    Edges.edge("27 hand: both are the same",
        ALL_GRANTED + "hand 0 0 0 60 ! argument; hand 1 1 0 60 ! argument; area 0 = 60");
    Edges.edge("27 hand: the first one is dead",
        ALL_GRANTED + "death 0; hand 0 1 0 60 ! state; area 0 = 60; area 1 = 0");
    Edges.edge("27 hand: the other one is dead",
        ALL_GRANTED + "death 1; hand 0 1 0 60 ! state; area 0 = 60; area 1 = 0");
    Edges.edge("27 hand: both are dead",
        ALL_GRANTED + "death 0; death 1; hand 0 1 0 60 ! state; area 0 = 60");
    Edges.edge("27 hand: nobody's units", Edges.people(2) + "hand 0 1 0 60 ! state; area 1 = 0");
    Edges.edge("27 hand: the other one's units",
        ALL_GRANTED + "hand 1 0 0 60 ! state; area 0 = 60");
    Edges.edge("27 hand: just behind its units",
        Edges.people(2) + "grant 0 20 30; hand 0 1 30 60 ! state; hand 0 1 29 60 = 1");
    Edges.edge("27 hand: just before its units",
        Edges.people(2) + "grant 0 20 30; hand 0 1 0 20 ! state; hand 0 1 0 21 = 1");
    Edges.edge("27 hand: handed before",
        ALL_GRANTED + "hand 0 1 0 60; hand 0 1 0 60 ! state; hand 0 2 0 60 ! state; area 1 = 60");
    Edges.edge("27 hand: nobody is there", "hand 0 0 0 60 ! index; hand 0 1 0 60 ! index");
  }

  private static void sixtyHandings() {
    Edges.edge("27 hand: the 60th", ALL_GRANTED
        + Edges.times(29, "hand 0 1 0 60 = 60; hand 1 0 0 60 = 60")
        + "hand 0 1 0 60 = 60; hand 1 2 0 60 = 60; area 2 = 60");
    Edges.edge("27 hand: a 61st",
        SIXTY_HANDINGS + "hand 0 1 0 60 ! state; area 0 = 60; area 1 = 0");
    Edges.edge("27 hand: a 61st of a single unit",
        SIXTY_HANDINGS + "hand 0 1 59 60 ! state; area 0 = 60");
    Edges.edge("27 hand: refused ones do not count among the 60", ALL_GRANTED + """
        hand 1 0 0 60 ! state; hand 0 0 0 60 ! argument; hand 0 3 0 60 ! index
        hand 0 1 0 61 ! argument
        """ + Edges.times(30, "hand 0 1 0 60 = 60; hand 1 0 0 60 = 60") + "hand 0 1 0 60 ! state");
    Edges.edge("27 hand: grants and closings do not count among the 60", Edges.people(3)
        + Edges.each(0, 60, u -> "grant 0 " + u + " " + (u + 1)) + "death 2; close 2\n"
        + Edges.times(30, "hand 0 1 0 60 = 60; hand 1 0 0 60 = 60") + "hand 0 1 0 60 ! state");
    Edges.edge("27 hand: those that a reopening leaves empty count among the 60", Edges.people(4)
        + "grant 0 0 4; proof 0 1 5; death 0; close 0\n"
        + Edges.times(30, "hand 1 2 0 60 = 4; hand 2 1 0 60 = 4")
        + "doubt 0 5; area 1 = 0; grant 1 10 20; hand 1 2 0 60 ! state; judge 0 false = 4\n"
        + "area 1 = 14; hand 1 2 0 60 ! state");
    Edges.edge("27 hand: behind 60 of them land is granted, drawn and reopened", Edges.people(3)
        + "grant 0 0 59\n" + Edges.times(30, "hand 0 1 0 60 = 59; hand 1 0 0 60 = 59")
        + "grant 2 59 60 = 1; proof 0 1 5; death 0; close 0 = 1; area 1 = 59\n"
        + "proof 0 2 5; area 1 = 30; area 2 = 30");
  }

  private static void handThrowsTheFirst() {
    Edges.edge("27 hand: no first one and from -1, the index is first",
        ALL_GRANTED + "hand 3 0 -1 5 ! index; hand -1 0 -1 5 ! index");
    Edges.edge("27 hand: no other one and to 61, the index is first",
        ALL_GRANTED + "hand 0 3 0 61 ! index; hand 0 -1 0 61 ! index");
    Edges.edge("27 hand: both are the same and not there, the index is first",
        ALL_GRANTED + "hand 3 3 0 60 ! index; hand -1 -1 0 60 ! index; hand 14 14 0 60 ! index");
    Edges.edge("27 hand: no other one and the first is dead, the index is first",
        ALL_GRANTED + "death 0; hand 0 3 0 60 ! index; hand 0 -1 0 60 ! index");
    Edges.edge("27 hand: no first one and the other is dead, the index is first",
        ALL_GRANTED + "death 0; hand 3 0 0 60 ! index; hand -1 0 0 60 ! index");
    Edges.edge("27 hand: no person and a 61st, the index is first",
        SIXTY_HANDINGS + "hand 0 3 0 60 ! index; hand 3 0 0 60 ! index");
    Edges.edge("27 hand: both are the same, and the units out of range",
        ALL_GRANTED + "hand 0 0 0 61 ! argument; hand 0 0 5 5 ! argument");
    Edges.edge("27 hand: both are the same and dead, the argument is first",
        ALL_GRANTED + "death 0; hand 0 0 0 60 ! argument");
    Edges.edge("27 hand: both are the same and a 61st, the argument is first",
        SIXTY_HANDINGS + "hand 0 0 0 60 ! argument");
    Edges.edge("27 hand: both are the same and without units, the argument is first",
        ALL_GRANTED + "hand 1 1 0 60 ! argument");
    Edges.edge("27 hand: units out of range and one is dead, the argument is first",
        ALL_GRANTED + "death 0; hand 0 1 5 5 ! argument; hand 1 0 -1 60 ! argument");
    Edges.edge("27 hand: units out of range and none is its own, the argument is first",
        ALL_GRANTED + "hand 1 0 0 61 ! argument; hand 1 0 60 61 ! argument");
    Edges.edge("27 hand: units out of range and a 61st, the argument is first",
        SIXTY_HANDINGS + "hand 0 1 0 61 ! argument; hand 0 1 -1 60 ! argument");
    Edges.edge("27 hand: dead, without units and a 61st",
        SIXTY_HANDINGS + "death 2; hand 2 1 0 60 ! state; hand 1 2 0 60 ! state; area 0 = 60");
    Edges.edge("27 hand: every reason at once, the index is first",
        SIXTY_HANDINGS + "death 0; hand 3 3 -1 61 ! index; hand 0 0 60 60 ! argument");
  }

  private static void drawn() {
    String three = Edges.people(4) + "proof 0 1 5; proof 0 2 5; proof 0 3 5\n";
    Edges.edge("28 owner: before the closing it is the dead person's",
        three + "grant 0 0 3; death 0\n" + Edges.owners(0, 0, 0, 0));
    Edges.edge("28 owner: no units to draw", three + "death 0; close 0 = 3; parcels = 0");
    Edges.edge("28 owner: one unit and three heirs",
        three + "grant 0 59 60; death 0; close 0\n" + Edges.owners(58, -1, 1));
    Edges.edge("28 owner: two units and three heirs",
        three + "grant 0 0 2; death 0; close 0\n" + Edges.owners(0, 1, 2, -1));
    Edges.edge("28 owner: as many units as heirs",
        three + "grant 0 0 3; death 0; close 0\n" + Edges.owners(0, 1, 2, 3, -1));
    Edges.edge("28 owner: one unit is left over",
        three + "grant 0 0 4; death 0; close 0\n" + Edges.owners(0, 1, 1, 2, 3, -1));
    Edges.edge("28 owner: two units are left over, the most of three heirs",
        three + "grant 0 0 5; death 0; close 0\n" + Edges.owners(0, 1, 1, 2, 2, 3, -1));
    Edges.edge("28 owner: nothing is left over",
        three + "grant 0 0 6; death 0; close 0\n" + Edges.owners(0, 1, 1, 2, 2, 3, 3, -1));
    Edges.edge("28 owner: 60 units and three heirs",
        three + "grant 0 0 60; death 0; close 0\n" + Edges.owners(19, 1, 2)
            + Edges.owners(39, 2, 3) + "area 1 = 20; area 2 = 20; area 3 = 20");
    Edges.edge("28 owner: 60 units and one heir",
        Edges.people(2) + "grant 0 0 60; proof 0 1 5; death 0; close 0; area 1 = 60; parcels = 1");
    Edges.edge("28 owner: 60 units and 13 heirs, 8 units are left over", Edges.people(14)
        + Edges.each(1, 14, p -> "proof 0 " + p + " 5") + "grant 0 0 60; death 0; close 0 = 13\n"
        + Edges.each(1, 9, p -> "area " + p + " = 5")
        + Edges.each(9, 14, p -> "area " + p + " = 4"));
    Edges.edge("28 owner: 12 units and 13 heirs, the last by rank gets none", Edges.people(14)
        + Edges.each(1, 14, p -> "proof 0 " + p + " 5") + "grant 0 0 12; death 0; close 0 = 13\n"
        + Edges.each(1, 13, p -> "area " + p + " = 1") + "area 13 = 0");
    Edges.edge("28 owner: its units lie apart, the row is of these", Edges.people(4)
        + "grant 0 0 1; grant 3 1 2; grant 0 2 4; grant 3 4 58; grant 0 58 60\n"
        + "proof 0 1 5; proof 0 2 5; death 0; close 0 = 2\n" + Edges.owners(0, 1, 3, 1, 1, 3)
        + Edges.owners(57, 3, 2, 2));
    Edges.edge("28 owner: rounded down, whatever the share, and left over by rank", Edges.people(3)
        + "grant 0 0 9; will 0 1 1; will 0 2 9; death 0; close 0\n" + "area 1 = 1; area 2 = 8");
    Edges.edge("28 owner: a share that is just a whole unit",
        Edges.people(3) + "grant 0 0 10; will 0 1 1; will 0 2 9; death 0; close 0\n"
            + Edges.owners(0, 1, 2, 2, 2, 2, 2, 2, 2, 2, 2, -1));
    Edges.edge("28 owner: drawn to the person 0", Edges.people(3)
        + "grant 2 0 3; proof 0 2 5; proof 1 2 5; death 2; close 2\n" + Edges.owners(0, 0, 0, 1));
    Edges.edge("28 owner: drawn to the person 13", Edges.people(14)
        + "grant 0 0 3; proof 0 12 5; proof 0 13 5; death 0; claim 13 0; close 0\n"
        + Edges.owners(0, 13, 13, 12));
    Edges.edge("28 owner: only what belongs to it by then is drawn", Edges.people(4)
        + "grant 0 0 4; hand 0 3 0 2; proof 0 1 5; death 0; close 0\n"
        + Edges.owners(0, 3, 3, 1, 1));
    Edges.edge("28 owner: what was handed to it is drawn, too", Edges.people(4)
        + "grant 3 0 4; hand 3 0 1 3; proof 0 1 5; death 0; close 0\n"
        + Edges.owners(0, 3, 1, 1, 3));
    Edges.edge("28 owner: an heir that died behind the closing, and its estate is closed",
        three + "grant 0 0 3; birth 50; proof 1 4 5; death 0; close 0; death 1\n"
            + Edges.owners(0, 1, 2, 3) + "close 1\n" + Edges.owners(0, 4, 2, 3));
    Edges.edge("28 owner: a closed estate that lands come to later are not drawn by",
        Edges.people(3) + "grant 1 0 4; proof 0 1 5; proof 1 2 5; death 1; death 0; close 0 = 1\n"
            + "close 1 = 1\n" + Edges.owners(0, 2, 2, 2, 2));
  }

  private static void drawnByRank() {
    String three = Edges.people(5) + "grant 0 0 4; proof 0 1 5; proof 0 2 5; proof 0 3 5\n";
    Edges.edge("28 owner: by number, if nobody has filed",
        three + "death 0; close 0\n" + Edges.owners(0, 1, 1, 2, 3));
    Edges.edge("28 owner: who has filed is ahead",
        three + "death 0; claim 3 0; close 0\n" + Edges.owners(0, 3, 3, 1, 2));
    Edges.edge("28 owner: by the order of filing",
        three + "death 0; claim 3 0; claim 2 0; claim 1 0; close 0\n"
            + Edges.owners(0, 3, 3, 2, 1));
    Edges.edge("28 owner: who filed and is no heir takes no place",
        three + "death 0; claim 4 0; claim 2 0; close 0\n" + Edges.owners(0, 2, 2, 1, 3));
    Edges.edge("28 owner: all 13 have filed, from the last one on", Edges.people(14)
        + Edges.each(1, 14, p -> "proof 0 " + p + " 5") + "grant 0 0 13; death 0\n"
        + Edges.each(1, 14, p -> "claim " + (14 - p) + " 0 = " + p) + "close 0\n"
        + Edges.owners(0, 13, 12, 11, 10, 9, 8, 7, 6, 5, 4, 3, 2, 1));
    Edges.edge("28 owner: claims of those who died before the closing are gone",
        three + "birth 50; proof 3 5 5; death 0; claim 3 0; claim 2 0; death 3; close 0\n"
            + Edges.owners(0, 2, 2, 1, 5));
    Edges.edge("28 owner: claims of those who died behind the closing stay",
        three + "death 0; claim 3 0; close 0; death 3; proof 0 4 5\n"
            + Edges.owners(0, 3, 1, 2, 4));
    Edges.edge("28 owner: who filed and becomes an heir by a reopening is ahead",
        three + "death 0; claim 4 0; close 0\n" + Edges.owners(0, 1, 1, 2, 3)
            + "proof 0 4 5\n" + Edges.owners(0, 4, 1, 2, 3));
    Edges.edge("28 owner: claims to another estate give no rank",
        three + "death 4; claim 3 4; death 0; close 0\n" + Edges.owners(0, 1, 1, 2, 3));
  }

  private static void withoutHeirs() {
    Edges.edge("28 owner: without heirs all 60 units are nobody's", ALL_GRANTED
        + "death 0; close 0 = 0; area 0 = 0; parcels = 0\n"
        + Edges.each(0, 60, u -> "owner " + u + " = NONE"));
    Edges.edge("28 owner: without heirs only the dead person's units are nobody's",
        Edges.people(2) + "grant 0 0 1; grant 1 1 2; grant 0 2 3; death 0; close 0\n"
            + Edges.owners(0, -1, 1, -1));
    Edges.edge("28 owner: nobody's units come back by a reopening",
        ALL_GRANTED + "death 0; close 0; proof 0 1 5; area 1 = 60; doubt 0 5; area 1 = 0");
    Edges.edge("28 owner: nobody's units go to nobody's heirs",
        Edges.people(3) + "grant 0 0 2; proof 1 2 5; death 0; close 0; death 1; close 1 = 1\n"
            + Edges.owners(0, -1, -1));
  }

  private static void drawnAnew() {
    String handed = Edges.people(4) + "grant 0 0 4; proof 0 1 5; death 0; close 0\n";
    Edges.edge("29 ownerAnew: a handing hands what belongs to the person at its place", handed
        + "hand 1 2 0 4 = 4; proof 0 3 5\n" + Edges.owners(0, 2, 2, 3, 3));
    Edges.edge("29 ownerAnew: a handing hands more than it did", handed
        + "proof 0 3 5; hand 1 2 0 4 = 2; doubt 1 5\n" + Edges.owners(0, 2, 2, 2, 2));
    Edges.edge("29 ownerAnew: a handing hands nothing any more, and then again", handed
        + "hand 1 2 0 4; doubt 0 5\n" + Edges.owners(0, -1, -1, -1, -1) + "judge 0 false = 4\n"
        + Edges.owners(0, 2, 2, 2, 2));
    Edges.edge("29 ownerAnew: a handing of some units hands no others", handed
        + "proof 0 3 5; hand 1 2 0 3 = 2; doubt 1 5\n" + Edges.owners(0, 2, 2, 2, 1));
    Edges.edge("29 ownerAnew: a handing by somebody who died since", handed
        + "hand 1 2 0 4; death 1; death 2; proof 0 3 5\n" + Edges.owners(0, 2, 2, 3, 3));
    Edges.edge("29 ownerAnew: grants behind the closing stay", handed
        + "grant 1 4 6; grant 2 6 7; doubt 0 5\n" + Edges.owners(0, -1, -1, -1, -1, 1, 1, 2));
    Edges.edge("29 ownerAnew: the land of those who died since moves on", Edges.people(4)
        + "grant 0 0 4; proof 0 1 5; proof 1 2 5; death 0; close 0; death 1; close 1\n"
        + Edges.owners(0, 2, 2, 2, 2) + "proof 0 3 5\n" + Edges.owners(0, 2, 2, 3, 3));
    Edges.edge("29 ownerAnew: the land of who died before moves not by it", Edges.people(4)
        + "grant 1 0 2; grant 0 2 4; proof 1 2 5; death 1; close 1; death 0; close 0\n"
        + "proof 0 3 5\n" + Edges.owners(0, 2, 2, 3, 3));
    Edges.edge("29 ownerAnew: a chain of 13 closings", Edges.people(14)
        + Edges.each(1, 14, p -> "proof " + (p - 1) + " " + p + " 5") + "grant 0 0 60\n"
        + Edges.each(0, 13, p -> "death " + p + "; close " + p + " = 1")
        + "ownerAnew 0 = 13; ownerAnew 59 = 13; doubt 0 5; owner 0 = NONE; ownerAnew 59 = NONE\n"
        + "judge 0 false = 60; owner 59 = 13; ownerAnew 0 = 13");
    Edges.edge("29 ownerAnew: the first deed of all is reopened", Edges.people(3)
        + "death 0; close 0; grant 1 0 2; proof 0 1 5\n" + Edges.owners(0, 1, 1, -1));
    Edges.edge("29 ownerAnew: the last deed of all is reopened",
        handed + "proof 0 2 5\n" + Edges.owners(0, 1, 1, 2, 2));
    Edges.edge("29 ownerAnew: no grants, handings and closings", Edges.people(2)
        + Edges.owners(0, -1) + Edges.owners(59, -1));
  }

  private static void inTheirOrder() {
    String kin = Edges.people(4) + "grant 0 0 2; grant 1 2 4; proof 0 1 5; proof 1 2 5\n";
    Edges.edge("28 owner: the estates are closed from the parent on",
        kin + "death 0; close 0\n" + Edges.owners(0, 1, 1, 1, 1) + "death 1; close 1\n"
            + Edges.owners(0, 2, 2, 2, 2));
    Edges.edge("28 owner: the child's estate is closed first",
        kin + "death 0; death 1; close 1\n" + Edges.owners(0, 0, 0, 2, 2) + "close 0\n"
            + Edges.owners(0, 2, 2, 2, 2));
    Edges.edge("28 owner: one call reopens both, drawn from the earlier closing on",
        kin + "death 0; death 1; close 1; hand 2 3 2 3; close 0\n" + Edges.owners(0, 2, 2, 3, 2)
            + "proof 1 3 5\n" + Edges.owners(0, 2, 3, 3, 3));
    Edges.edge("28 owner: one call reopens both, the earlier one is the first deed of all",
        Edges.people(4) + "proof 0 1 5; proof 0 3 5; death 0; close 0 = 2; grant 1 0 2; death 1\n"
            + "close 1 = 1\n" + Edges.owners(0, 3, 3) + "doubt 0 5\n" + Edges.owners(0, -1, -1)
            + "reopenings 0 = 1; reopenings 1 = 1; judge 0 false = 2\n" + Edges.owners(0, 3, 3));
    Edges.edge("28 owner: reopened by one call, and back by the next",
        kin + "death 0; close 0; hand 1 3 0 2; doubt 0 5\n" + Edges.owners(0, -1, -1, 1, 1)
            + "judge 0 false = 2\n" + Edges.owners(0, 3, 3, 1, 1));
    Edges.edge("28 owner: as many grants, handings and closings as there can be", Edges.people(14)
        + Edges.each(0, 60, u -> "grant " + u % 14 + " " + u + " " + (u + 1) + " = 1")
        + Edges.each(0, 60, u -> "hand " + u % 14 + " " + (u + 1) % 14 + " " + u + " " + (u + 1)
            + " = 1")
        + Edges.each(1, 14, p -> "proof " + (p - 1) + " " + p + " 5")
        + Edges.each(0, 14, p -> "death " + p + "; close " + p)
        + "parcels = 0; doubt 0 1; reopenings 0 = 0\n"
        + "doubt 12 5; reopenings 12 = 1; judge 1 false = 0\n"
        + Edges.owners(0, -1) + Edges.owners(59, -1));
  }

  private static void area() {
    Edges.edge("30 area: 0, without land", Edges.people(2) + "area 0 = 0; area 1 = 0");
    Edges.edge("30 area: 1, the first unit",
        Edges.people(2) + "grant 0 0 1; area 0 = 1; area 1 = 0");
    Edges.edge("30 area: 1, the last unit", Edges.people(2) + "grant 0 59 60; area 0 = 1");
    Edges.edge("30 area: 60, all of it", ALL_GRANTED + "area 0 = 60; area 1 = 0");
    Edges.edge("30 area: of the dead", ALL_GRANTED + "death 0; area 0 = 60; close 0; area 0 = 0");
    Edges.edge("30 area: of several parcels",
        Edges.people(2) + "grant 0 0 2; grant 1 2 3; grant 0 3 5; area 0 = 4; area 1 = 1");
    Edges.edge("30 area: all handed away", ALL_GRANTED + "hand 0 1 0 60; area 0 = 0; area 1 = 60");
    Edges.edge("30 area: nobody is there", "area 0 ! index; area -1 ! index");
  }

  private static void parcels() {
    Edges.edge("31 parcels: 0, nothing is granted", Edges.people(2) + "parcels = 0");
    Edges.edge("31 parcels: 1 of 60 units", ALL_GRANTED + "parcels = 1");
    Edges.edge("31 parcels: 1 of the first unit", Edges.people(1) + "grant 0 0 1; parcels = 1");
    Edges.edge("31 parcels: 1 of the last unit", Edges.people(1) + "grant 0 59 60; parcels = 1");
    Edges.edge("31 parcels: 60, the most", Edges.people(2)
        + Edges.each(0, 60, u -> "grant " + u % 2 + " " + u + " " + (u + 1) + "; parcels = "
            + (u + 1)));
    Edges.edge("31 parcels: 30, with nobody's units between", Edges.people(1)
        + Edges.each(0, 30, u -> "grant 0 " + 2 * u + " " + (2 * u + 1)) + "parcels = 30");
    Edges.edge("31 parcels: two grants side by side are one",
        Edges.people(1) + "grant 0 0 5; grant 0 5 9; parcels = 1");
    Edges.edge("31 parcels: of two persons side by side are two",
        Edges.people(2) + "grant 0 0 5; grant 1 5 9; parcels = 2");
    Edges.edge("31 parcels: nobody's units side by side are none",
        ALL_GRANTED + "hand 0 1 20 40; death 1; close 1; parcels = 2; owner 30 = NONE");
    Edges.edge("31 parcels: of the dead, too", ALL_GRANTED + "death 0; parcels = 1");
    Edges.edge("31 parcels: the last unit and the first one are not side by side",
        Edges.people(1) + "grant 0 0 1; grant 0 59 60; parcels = 2");
    Edges.edge("31 parcels: without people", "parcels = 0");
  }

  private static void parcelAt() {
    Edges.edge("32 parcelAt: of 60 units, from each of them",
        ALL_GRANTED + Edges.each(0, 60, u -> "parcelAt " + u + " = 60"));
    Edges.edge("32 parcelAt: unit 0 alone", Edges.people(1) + "grant 0 0 1; parcelAt 0 = 1");
    Edges.edge("32 parcelAt: unit 59 alone", Edges.people(1) + "grant 0 59 60; parcelAt 59 = 5901");
    Edges.edge("32 parcelAt: each unit alone", Edges.people(2)
        + Edges.each(0, 60, u -> "grant " + u % 2 + " " + u + " " + (u + 1))
        + Edges.each(0, 60, u -> "parcelAt " + u + " = " + (100 * u + 1)));
    Edges.edge("32 parcelAt: all but unit 0",
        Edges.people(1) + "grant 0 1 60; parcelAt 1 = 159; parcelAt 59 = 159\n"
            + "parcelAt 0 ! element");
    Edges.edge("32 parcelAt: all but unit 59",
        Edges.people(1) + "grant 0 0 59; parcelAt 0 = 59; parcelAt 58 = 59; parcelAt 59 ! element");
    Edges.edge("32 parcelAt: from its first, a middle and its last unit", Edges.people(2)
        + "grant 1 0 10; grant 0 10 20; grant 1 20 60\n"
        + "parcelAt 10 = 1010; parcelAt 15 = 1010; parcelAt 19 = 1010");
    Edges.edge("32 parcelAt: two grants side by side",
        Edges.people(1) + "grant 0 10 20; grant 0 20 25; parcelAt 24 = 1015; parcelAt 10 = 1015");
    Edges.edge("32 parcelAt: the first and the last unit are not side by side",
        Edges.people(1) + "grant 0 0 1; grant 0 59 60; parcelAt 0 = 1; parcelAt 59 = 5901");
    Edges.edge("32 parcelAt: of the dead",
        Edges.people(1) + "grant 0 5 9; death 0; parcelAt 8 = 504");
    Edges.edge("32 parcelAt: nobody's, never granted", Edges.people(2)
        + "grant 0 5 9; parcelAt 4 ! element; parcelAt 9 ! element");
    Edges.edge("32 parcelAt: nobody's, without heirs",
        Edges.people(2) + "grant 0 5 9; death 0; close 0; parcelAt 5 ! element");
    Edges.edge("32 parcelAt: nobody's, by a reopening", Edges.people(2)
        + "grant 0 5 9; proof 0 1 5; death 0; close 0; parcelAt 5 = 504; doubt 0 5\n"
        + "parcelAt 5 ! element; judge 0 false = 4; parcelAt 8 = 504");
    Edges.edge("32 parcelAt: no unit, in land of nobody, the index is first",
        "parcelAt 60 ! index; parcelAt -1 ! index; parcelAt 0 ! element; parcelAt 59 ! element");
  }
}
