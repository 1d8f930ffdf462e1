/** The edges of promises 1 to 7: a new object, people and days. */
public final class PeopleEdgesTest {
  private static final String LAST_DAY = Edges.times(20, "pass 100");

  public static void main(String[] args) {
    newObject();
    pass();
    passThrows();
    birth();
    birthThrows();
    death();
    claimsGoneByDeath();
    peopleAndIsAlive();
    Edges.finish(1, 7);
  }

  private static void newObject() {
    Edges.edge("1 Treeclerk: begins on the day 0", "today = 0; pass 1 = 1");
    Edges.edge("1 Treeclerk: without people", "people = 0; birth 0 = 0; people = 1");
    Edges.edge("1 Treeclerk: without doubts", "openDoubts = 0");
    Edges.edge("1 Treeclerk: all land belongs to nobody, kept",
        Edges.each(0, 60, unit -> "owner " + unit + " = NONE"));
    Edges.edge("1 Treeclerk: all land belongs to nobody, found anew",
        Edges.each(0, 60, unit -> "ownerAnew " + unit + " = NONE"));
    Edges.edge("1 Treeclerk: no parcels", "parcels = 0");
    Edges.edge("1 Treeclerk: no unit is of a parcel",
        Edges.each(0, 60, unit -> "parcelAt " + unit + " ! element"));
    Edges.edge("1 Treeclerk: nothing was granted before",
        "birth 0" + Edges.each(0, 60, unit -> "\ngrant 0 " + unit + " " + (unit + 1) + " = 1"));
    Edges.edge("1 Treeclerk: the 512th call is answered as any other",
        Edges.times(510, "people = 0") + "birth 0 = 0; people = 1");
  }

  private static void pass() {
    Edges.edge("2 pass: 1 day is allowed, the fewest", "pass 1 = 1; today = 1");
    Edges.edge("2 pass: 100 days are allowed, the most", "pass 100 = 100; today = 100");
    Edges.edge("2 pass: to the day 2000 from 1999", Edges.times(19, "pass 100")
        + "pass 99 = 1999; pass 1 = 2000; today = 2000");
    Edges.edge("2 pass: to the day 2000 from 1900",
        Edges.times(19, "pass 100") + "today = 1900; pass 100 = 2000; today = 2000");
    Edges.edge("3 today: 0 at first", "today = 0; today = 0");
    Edges.edge("3 today: 2000 at last", LAST_DAY + "today = 2000");
    Edges.edge("3 today: other calls let no day pass", Edges.people(2) + """
        proof 0 1 5; doubt 0 1; judge 0 true; will 0 1 1; grant 0 0 9; hand 0 1 0 3
        death 0; claim 1 0; close 0; today = 100
        """);
  }

  private static void passThrows() {
    Edges.edge("2 pass: 0 days are not allowed", "pass 0 ! argument; today = 0");
    Edges.edge("2 pass: -1 days are not allowed", "pass 5; pass -1 ! argument; today = 5");
    Edges.edge("2 pass: 101 days are not allowed", "pass 101 ! argument; today = 0");
    Edges.edge("2 pass: the least int", "pass 5; pass MIN ! argument; today = 5");
    Edges.edge("2 pass: the greatest int, beyond which today wraps around",
        "pass 5; pass MAX ! argument; today = 5");
    Edges.edge("2 pass: 2001 from 2000", LAST_DAY + "pass 1 ! state; today = 2000");
    Edges.edge("2 pass: 2100 from 2000", LAST_DAY + "pass 100 ! state; today = 2000");
    Edges.edge("2 pass: 2001 from 1999", Edges.times(19, "pass 100")
        + "pass 99; pass 2 ! state; today = 1999; pass 1 = 2000");
    Edges.edge("2 pass: 2001 from 1901", Edges.times(19, "pass 100")
        + "pass 1; pass 100 ! state; today = 1901; pass 99 = 2000");
    Edges.edge("2 pass: 101 days and above 2000, the argument is first",
        LAST_DAY + "pass 101 ! argument; today = 2000");
    Edges.edge("2 pass: the greatest int and above 2000, the argument is first",
        LAST_DAY + "pass MAX ! argument; today = 2000");
    Edges.edge("2 pass: 0 days at 2000", LAST_DAY + "pass 0 ! argument; today = 2000");
  }

  private static void birth() {
    Edges.edge("4 birth: on the day 0, today", "birth 0 = 0");
    Edges.edge("4 birth: on the day 0, late", "pass 100; birth 0 = 0");
    Edges.edge("4 birth: today", "pass 100; birth 100 = 0");
    Edges.edge("4 birth: on the day 2000", LAST_DAY + "birth 2000 = 0; birth 0 = 1");
    Edges.edge("4 birth: late, with a number behind those born later", """
        pass 10; birth 10 = 0; birth 3 = 1; birth 7 = 2; proof 1 2 1 = 0; proof 2 0 1 = 1
        proof 0 1 1 ! argument
        """);
    Edges.edge("4 birth: several on one day", "birth 0 = 0; birth 0 = 1; birth 0 = 2");
    Edges.edge("4 birth: the 14th is number 13",
        Edges.each(0, 14, p -> "birth 0 = " + p) + "people = 14; isAlive 13 = true");
  }

  private static void birthThrows() {
    Edges.edge("4 birth: the day -1", "birth -1 ! argument; people = 0; birth 0 = 0");
    Edges.edge("4 birth: tomorrow, on the day 0", "birth 1 ! argument; people = 0; birth 0 = 0");
    Edges.edge("4 birth: tomorrow, on the day 100", "pass 100; birth 101 ! argument; people = 0");
    Edges.edge("4 birth: tomorrow, on the day 2000", LAST_DAY + "birth 2001 ! argument");
    Edges.edge("4 birth: the least int", "pass 9; birth MIN ! argument; people = 0");
    Edges.edge("4 birth: the greatest int", "pass 9; birth MAX ! argument; people = 0");
    Edges.edge("4 birth: a 15th", Edges.times(14, "birth 0") + "birth 0 ! state; people = 14");
    Edges.edge("4 birth: a 15th, the dead keep their places", Edges.times(14, "birth 0")
        + Edges.each(0, 14, p -> "death " + p) + "birth 0 ! state; people = 14");
    Edges.edge("4 birth: a 15th tomorrow, the argument is first",
        Edges.times(14, "birth 0") + "birth 1 ! argument; people = 14");
    Edges.edge("4 birth: a 15th on the day -1, the argument is first",
        Edges.times(14, "birth 0") + "birth -1 ! argument; people = 14");
  }

  private static void death() {
    Edges.edge("5 death: on the day of the birth", "birth 0; death 0 = 0; isAlive 0 = false");
    Edges.edge("5 death: on the day 2000", LAST_DAY + "birth 0; death 0 = 0; isAlive 0 = false");
    Edges.edge("5 death: of each of 14", Edges.people(14)
        + Edges.each(0, 14, p -> "death " + p + " = 0; isAlive " + p + " = false"));
    Edges.edge("5 death: nobody else dies",
        Edges.people(3) + "death 1; isAlive 0 = true; isAlive 2 = true");
    Edges.edge("5 death: of the dead", "birth 0; death 0; death 0 ! state");
    Edges.edge("5 death: of the dead, whose estate is closed",
        "birth 0; death 0; close 0; death 0 ! state");
    Edges.edge("5 death: of the dead, many days later", """
        birth 0; death 0; pass 100; birth 50; death 0 ! state; proof 0 1 5
        """ + Edges.share(1, 0, 0, 1));
    Edges.edge("5 death: nobody is there", "death 0 ! index; birth 0; death 0 = 0");
  }

  private static void claimsGoneByDeath() {
    Edges.edge("5 death: one claim is gone",
        Edges.people(2) + "death 0; claim 1 0; death 1 = 1; claims 0 = 0");
    Edges.edge("5 death: 13 claims are gone, the most", Edges.people(14)
        + Edges.each(0, 13, p -> "death " + p + " = 0; claim 13 " + p + " = 1")
        + "death 13 = 13" + Edges.each(0, 13, p -> "\nclaims " + p + " = 0"));
    Edges.edge("5 death: claims to closed estates stay", Edges.people(4) + """
        death 0; death 1; claim 3 0; claim 3 1; close 0; death 3 = 1; claims 0 = 1; claims 1 = 0
        """);
    Edges.edge("5 death: all its claims are to closed estates",
        Edges.people(3) + "death 0; claim 2 0; close 0; death 2 = 0; claims 0 = 1");
    Edges.edge("5 death: the claims of others stay, in their order", Edges.people(5) + """
        grant 0 0 3; proof 0 2 1; proof 0 3 1; proof 0 4 1; death 0
        claim 4 0; claim 1 0; claim 3 0; claim 2 0; death 1 = 1; claims 0 = 3; close 0 = 3
        """ + Edges.owners(0, 4, 3, 2));
    Edges.edge("5 death: claims to its own estate come later", Edges.people(3)
        + "death 0; claim 1 0; death 1 = 1; claim 2 1 = 1; claims 0 = 0; claims 1 = 1");
    Edges.edge("5 death: a refused one takes no claim", Edges.people(3)
        + "death 0; claim 1 0; death 0 ! state; death 3 ! index; claims 0 = 1; death 1 = 1");
  }

  private static void peopleAndIsAlive() {
    Edges.edge("6 people: 1", "birth 0; people = 1");
    Edges.edge("6 people: 14", Edges.people(14) + "people = 14");
    Edges.edge("6 people: the dead with them", Edges.people(14)
        + Edges.each(0, 14, p -> "death " + p + "; people = 14"));
    Edges.edge("6 people: closed estates with them", "birth 0; death 0; close 0; people = 1");
    Edges.edge("7 isAlive: the first and the last of 14",
        Edges.people(14) + "isAlive 0 = true; isAlive 13 = true; death 13; isAlive 13 = false");
    Edges.edge("7 isAlive: dead for ever", """
        birth 0; death 0; pass 100; close 0; isAlive 0 = false
        """);
    Edges.edge("7 isAlive: nobody is there", "isAlive 0 ! index; isAlive -1 ! index");
  }
}
