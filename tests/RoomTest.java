import java.lang.management.ManagementFactory;

/** A run of 512 calls makes nothing but its object: all rows are made by the constructor. */
public final class RoomTest {
  public static void main(String[] args) {
    // Once before, so that what the machine itself makes at first is not counted.
    run();
    com.sun.management.ThreadMXBean threads =
        (com.sun.management.ThreadMXBean) ManagementFactory.getThreadMXBean();
    long before = threads.getCurrentThreadAllocatedBytes();
    run();
    long bytes = threads.getCurrentThreadAllocatedBytes() - before;
    Check.due("room of a run stays under 40000 bytes: " + bytes, bytes < 40_000, true);
    Check.finish();
  }

  private static void run() {
    Treeclerk clerk = new Treeclerk();
    clerk.pass(100);
    for (int person = 0; person < 14; person++) {
      clerk.birth(person);
      clerk.grant(person, 4 * person, 4 * person + 4);
    }
    for (int child = 1; child < 14; child++) {
      clerk.proof(child - 1, child, 9);
      clerk.proof(child / 2, child, 9);
    }
    for (int person = 0; person < 12; person++) {
      clerk.death(person);
      clerk.claim(13, person);
      clerk.close(person);
    }
    for (int doubt = 0; doubt < 30; doubt++) {
      clerk.doubt(doubt % 26, 1 + doubt % 9);
    }
    for (int call = 0; call < 100; call++) {
      clerk.disputes(call % 12);
      clerk.ownerAnew(call % 60);
      clerk.shareAboveByWays(13, call % 12);
    }
    for (int doubt = 0; doubt < 26; doubt++) {
      clerk.judge(doubt, false);
    }
  }
}
