import java.util.Arrays;
import java.util.NoSuchElementException;

/**
 * A register of births with an inheritance court and a land index: kin are told by proofs that
 * can be doubted and fall, estates are shared out by wills and by lines of kin, and boundaries
 * are drawn by whole units.
 */
public final class Treeclerk {
  public static final int NONE = -1;

  private static final int MAX_PEOPLE = 14;
  private static final int MAX_PROOFS = 30;
  private static final int MAX_DOUBTS = 30;
  private static final int MAX_WEIGHT = 9;
  private static final int MAX_PASS = 100;
  private static final int LAST_DAY = 2000;
  private static final int UNITS = 60;
  private static final int MAX_HANDINGS = 60;
  // Every grant takes a unit that was never granted, and every person is closed once at most.
  private static final int MAX_DEEDS = UNITS + MAX_HANDINGS + MAX_PEOPLE;
  private static final int PARCEL_FIRST = 100;
  // Euclid's algorithm on two longs ends sooner than this.
  private static final int MAX_DIVISIONS = 100;

  private final Folk folk = new Folk();
  private final Proofs proofs = new Proofs();
  private final Kin kin = new Kin();
  private final Kin supposedKin = new Kin();
  private final Estate[] estates = new Estate[MAX_PEOPLE];
  private final Court court = new Court();
  private final Land land = new Land();
  private final Shares found = new Shares();
  private final Shares supposedShares = new Shares();
  private int today = 0;

  public Treeclerk() {
    // Every place is filled here, so that no estate is ever null.
    for (int person = 0; person < MAX_PEOPLE; person++) {
      estates[person] = new Estate(person);
    }
  }

  // ---- people and days

  public int pass(int days) throws IllegalArgumentException, IllegalStateException {
    if (days < 1 || days > MAX_PASS) {
      throw new IllegalArgumentException("days are 1 to 100");
    }
    if (today + days > LAST_DAY) {
      throw new IllegalStateException("today would be above 2000");
    }
    today += days;
    return today;
  }

  public int today() {
    return today;
  }

  public int birth(int day) throws IllegalArgumentException, IllegalStateException {
    if (day < 0 || day > today) {
      throw new IllegalArgumentException("a day of birth is 0 to today");
    }
    if (folk.count >= MAX_PEOPLE) {
      throw new IllegalStateException("there are 14 people");
    }
    return folk.enter(day);
  }

  public int death(int person) throws IndexOutOfBoundsException, IllegalStateException {
    requirePerson(person);
    requireAlive(person);
    folk.bury(person, today);
    int gone = 0;
    for (int dead = 0; dead < MAX_PEOPLE; dead++) {
      if (!estates[dead].closed && estates[dead].dropClaim(person)) {
        gone++;
      }
    }
    return gone;
  }

  public int people() {
    return folk.count;
  }

  public boolean isAlive(int person) throws IndexOutOfBoundsException {
    requirePerson(person);
    return !folk.isDead(person);
  }

  // ---- proofs and doubts

  public int proof(int parent, int child, int weight)
      throws IndexOutOfBoundsException, IllegalArgumentException, IllegalStateException {
    requirePerson(parent);
    requirePerson(child);
    requireWeight(weight, 1);
    if (!folk.isOlder(parent, child)) {
      throw new IllegalArgumentException("a child is born on a later day than its parent");
    }
    if (proofs.count >= MAX_PROOFS) {
      throw new IllegalStateException("there are 30 proofs");
    }
    int number = proofs.file(parent, child, weight);
    retellKin();
    return number;
  }

  public int doubt(int proof, int weight)
      throws IndexOutOfBoundsException, IllegalArgumentException, IllegalStateException {
    requireProof(proof);
    requireWeight(weight, 1);
    if (proofs.hasFallen(proof)) {
      throw new IllegalStateException("the proof has fallen");
    }
    if (proofs.doubtCount >= MAX_DOUBTS) {
      throw new IllegalStateException("there are 30 doubts");
    }
    int number = proofs.fileDoubt(proof, weight);
    retellKin();
    return number;
  }

  public int judge(int doubt, boolean isUpheld)
      throws IndexOutOfBoundsException, IllegalStateException {
    if (doubt < 0 || doubt >= proofs.doubtCount) {
      throw new IndexOutOfBoundsException("there is no such doubt");
    }
    if (!proofs.isOpen(doubt)) {
      throw new IllegalStateException("the doubt is not open");
    }
    proofs.settle(doubt, isUpheld);
    return retellKin();
  }

  public int strength(int proof) throws IndexOutOfBoundsException {
    requireProof(proof);
    return proofs.strengthOf(proof);
  }

  public int openDoubts() {
    int open = 0;
    for (int doubt = 0; doubt < proofs.doubtCount; doubt++) {
      if (proofs.isOpen(doubt)) {
        open++;
      }
    }
    return open;
  }

  public int parentOf(int person, int place)
      throws IndexOutOfBoundsException, IllegalArgumentException {
    requirePerson(person);
    if (place != 0 && place != 1) {
      throw new IllegalArgumentException("a place is 0 or 1");
    }
    return place == 0 ? kin.firstParent(person) : kin.secondParent(person);
  }

  public int childrenOf(int person) throws IndexOutOfBoundsException {
    requirePerson(person);
    return kin.childSet(person);
  }

  // ---- wills, claims, closings

  public int will(int person, int heir, int weight)
      throws IndexOutOfBoundsException, IllegalArgumentException, IllegalStateException {
    requirePerson(person);
    requirePerson(heir);
    requireOthers(person, heir);
    requireWeight(weight, 0);
    requireAlive(person);
    return estates[person].setWeight(heir, weight);
  }

  public int claim(int person, int dead) throws IndexOutOfBoundsException, IllegalStateException {
    requirePerson(person);
    requirePerson(dead);
    requireAlive(person);
    requireDead(dead);
    Estate estate = estates[dead];
    requireUnclosed(estate);
    if (estate.hasClaimOf(person)) {
      throw new IllegalStateException("the person has filed a claim to it");
    }
    estate.addClaim(person);
    return estate.claimCount;
  }

  public int claims(int dead) throws IndexOutOfBoundsException {
    requirePerson(dead);
    return estates[dead].claimCount;
  }

  public int close(int dead) throws IndexOutOfBoundsException, IllegalStateException {
    requirePerson(dead);
    requireDead(dead);
    Estate estate = estates[dead];
    requireUnclosed(estate);
    court.shareFromHeads(folk, kin, estate, estate.shares);
    estate.closed = true;
    estate.deadAtClosing = folk.deadSet;
    estate.closingDeed = land.enterClosing(estate);
    return estate.shares.countHeirs();
  }

  public boolean isClosed(int person) throws IndexOutOfBoundsException {
    requirePerson(person);
    return estates[person].closed;
  }

  // ---- shares

  public long shareAbove(int person, int dead)
      throws IndexOutOfBoundsException, IllegalStateException {
    requirePerson(person);
    requirePerson(dead);
    requireDead(dead);
    return sharesNow(dead).aboveOf(person);
  }

  public long shareBelow(int person, int dead)
      throws IndexOutOfBoundsException, IllegalStateException {
    requirePerson(person);
    requirePerson(dead);
    requireDead(dead);
    return sharesNow(dead).belowOf(person);
  }

  public long shareAboveByWays(int person, int dead)
      throws IndexOutOfBoundsException, IllegalStateException {
    requirePerson(person);
    requirePerson(dead);
    requireDead(dead);
    court.shareFromPersons(folk, kin, estates[dead], found);
    return found.aboveOf(person);
  }

  public int heirs(int dead) throws IndexOutOfBoundsException, IllegalStateException {
    requirePerson(dead);
    requireDead(dead);
    return sharesNow(dead).countHeirs();
  }

  public int disputes(int dead) throws IndexOutOfBoundsException, IllegalStateException {
    requirePerson(dead);
    requireDead(dead);
    Shares now = sharesNow(dead);
    int disputes = 0;
    for (int proof = 0; proof < proofs.count; proof++) {
      int open = proofs.countOpen(proof);
      if (open > 0 && wouldBeOthers(estates[dead], now, proof)) {
        disputes += open;
      }
    }
    return disputes;
  }

  public int reopenings(int dead) throws IndexOutOfBoundsException {
    requirePerson(dead);
    return estates[dead].reopenings;
  }

  // ---- land

  public int grant(int person, int from, int to)
      throws IndexOutOfBoundsException, IllegalArgumentException, IllegalStateException {
    requirePerson(person);
    requireUnits(from, to);
    requireAlive(person);
    if (land.isGrantedWithin(from, to)) {
      throw new IllegalStateException("one of the units was granted before");
    }
    land.enterGrant(person, from, to);
    return to - from;
  }

  public int hand(int person, int other, int from, int to)
      throws IndexOutOfBoundsException, IllegalArgumentException, IllegalStateException {
    requirePerson(person);
    requirePerson(other);
    requireOthers(person, other);
    requireUnits(from, to);
    requireAlive(person);
    requireAlive(other);
    int units = land.countUnits(person, from, to);
    if (units == 0) {
      throw new IllegalStateException("none of the units belongs to the first one now");
    }
    if (land.handings >= MAX_HANDINGS) {
      throw new IllegalStateException("there were 60 handings");
    }
    land.enterHanding(person, other, from, to);
    return units;
  }

  public int owner(int unit) throws IndexOutOfBoundsException {
    requireUnit(unit);
    return land.keptOwner(unit);
  }

  public int ownerAnew(int unit) throws IndexOutOfBoundsException {
    requireUnit(unit);
    for (int dead = 0; dead < MAX_PEOPLE; dead++) {
      if (estates[dead].closed) {
        court.shareFromPersons(folk, kin, estates[dead], estates[dead].sharesAnew);
      }
    }
    return land.foundOwner(unit, estates);
  }

  public int area(int person) throws IndexOutOfBoundsException {
    requirePerson(person);
    return land.countUnits(person, 0, UNITS);
  }

  public int parcels() {
    int parcels = 0;
    for (int unit = 0; unit < UNITS; unit++) {
      if (land.keptOwner(unit) != NONE && land.parcelStart(unit) == unit) {
        parcels++;
      }
    }
    return parcels;
  }

  public int parcelAt(int unit) throws IndexOutOfBoundsException, NoSuchElementException {
    requireUnit(unit);
    if (land.keptOwner(unit) == NONE) {
      throw new NoSuchElementException("the unit belongs to nobody");
    }
    int start = land.parcelStart(unit);
    return PARCEL_FIRST * start + land.parcelEnd(unit) - start;
  }

  // ---- what the calls share

  private void requirePerson(int person) {
    if (person < 0 || person >= folk.count) {
      throw new IndexOutOfBoundsException("there is no such person");
    }
  }

  private void requireProof(int proof) {
    if (proof < 0 || proof >= proofs.count) {
      throw new IndexOutOfBoundsException("there is no such proof");
    }
  }

  private void requireUnit(int unit) {
    if (unit < 0 || unit >= UNITS) {
      throw new IndexOutOfBoundsException("there is no such unit");
    }
  }

  private void requireWeight(int weight, int least) {
    if (weight < least || weight > MAX_WEIGHT) {
      throw new IllegalArgumentException("the weight is out of range");
    }
  }

  private void requireOthers(int person, int other) {
    if (person == other) {
      throw new IllegalArgumentException("both persons are the same");
    }
  }

  private void requireUnits(int from, int to) {
    if (from < 0 || from >= UNITS || to <= from || to > UNITS) {
      throw new IllegalArgumentException("from is 0 to 59, and to is from + 1 to 60");
    }
  }

  private void requireAlive(int person) {
    if (folk.isDead(person)) {
      throw new IllegalStateException("the person is dead");
    }
  }

  private void requireDead(int person) {
    if (!folk.isDead(person)) {
      throw new IllegalStateException("the person is alive");
    }
  }

  private void requireUnclosed(Estate estate) {
    if (estate.closed) {
      throw new IllegalStateException("the estate is closed");
    }
  }

  /** The shares that an estate has by now; good until the next one is asked for. */
  private Shares sharesNow(int dead) {
    Estate estate = estates[dead];
    if (estate.closed) {
      return estate.shares;
    }
    court.shareFromHeads(folk, kin, estate, found);
    return found;
  }

  private boolean wouldBeOthers(Estate estate, Shares now, int fallenProof) {
    // What does not stand tells nothing of kin, so nothing changes when it falls.
    if (proofs.strengthOf(fallenProof) == 0) {
      return false;
    }
    supposedKin.tell(proofs, fallenProof);
    court.shareFromHeads(folk, supposedKin, estate, supposedShares);
    return !supposedShares.isSame(now);
  }

  /** Tells kin anew, reopens what that changes, and returns how many units change hands. */
  private int retellKin() {
    kin.tell(proofs, NONE);
    int firstDeed = MAX_DEEDS;
    for (int dead = 0; dead < MAX_PEOPLE; dead++) {
      Estate estate = estates[dead];
      if (estate.closed && reopen(estate)) {
        firstDeed = Math.min(firstDeed, estate.closingDeed);
      }
    }
    return land.redrawFrom(firstDeed, estates);
  }

  private boolean reopen(Estate estate) {
    court.shareFromHeads(folk, kin, estate, found);
    if (found.isSame(estate.shares)) {
      return false;
    }
    estate.shares.copy(found);
    estate.reopenings++;
    return true;
  }

  private static boolean isIn(int set, int person) {
    return person >= 0 && person < MAX_PEOPLE && (set >> person & 1) != 0;
  }

  /** Who is registered, in the order of numbers and in the order of age. */
  private static final class Folk {
    private final int[] birthDays = new int[MAX_PEOPLE];
    private final int[] deathDays = new int[MAX_PEOPLE];
    private final int[] oldestFirst = new int[MAX_PEOPLE];
    private int count = 0;
    private int deadSet = 0;

    int enter(int day) {
      if (count >= MAX_PEOPLE) {
        return NONE;
      }
      int person = count;
      int place = count;
      birthDays[person] = day;
      while (place > 0 && bornOn(oldestFirst[place - 1]) > day) {
        oldestFirst[place] = oldestFirst[place - 1];
        place--;
      }
      oldestFirst[place] = person;
      count++;
      return person;
    }

    void bury(int person, int day) {
      if (person >= 0 && person < MAX_PEOPLE) {
        deathDays[person] = day;
        deadSet |= 1 << person;
      }
    }

    boolean isDead(int person) {
      return isIn(deadSet, person);
    }

    int bornOn(int person) {
      return person >= 0 && person < MAX_PEOPLE ? birthDays[person] : 0;
    }

    int diedOn(int person) {
      return person >= 0 && person < MAX_PEOPLE ? deathDays[person] : 0;
    }

    boolean isOlder(int person, int other) {
      return bornOn(person) < bornOn(other);
    }

    int byAge(int place) {
      return place >= 0 && place < MAX_PEOPLE ? oldestFirst[place] : NONE;
    }
  }

  /** Proofs of parents, and the doubts against them. */
  private static final class Proofs {
    private final int[] parents = new int[MAX_PROOFS];
    private final int[] children = new int[MAX_PROOFS];
    private final int[] weights = new int[MAX_PROOFS];
    private final int[] openWeights = new int[MAX_PROOFS];
    private final boolean[] fallen = new boolean[MAX_PROOFS];
    private int count = 0;
    private final int[] doubtedProofs = new int[MAX_DOUBTS];
    private final int[] doubtWeights = new int[MAX_DOUBTS];
    private final boolean[] open = new boolean[MAX_DOUBTS];
    private int doubtCount = 0;

    int file(int parent, int child, int weight) {
      if (count >= MAX_PROOFS) {
        return NONE;
      }
      parents[count] = parent;
      children[count] = child;
      weights[count] = weight;
      count++;
      return count - 1;
    }

    int fileDoubt(int proof, int weight) {
      if (doubtCount >= MAX_DOUBTS || !isProof(proof)) {
        return NONE;
      }
      doubtedProofs[doubtCount] = proof;
      doubtWeights[doubtCount] = weight;
      open[doubtCount] = true;
      openWeights[proof] += weight;
      doubtCount++;
      return doubtCount - 1;
    }

    void settle(int doubt, boolean isUpheld) {
      if (!isOpen(doubt)) {
        return;
      }
      int proof = doubtedProofs[doubt];
      lift(doubt);
      if (isUpheld && isProof(proof)) {
        fallen[proof] = true;
        for (int other = 0; other < doubtCount; other++) {
          if (doubtedProofs[other] == proof) {
            lift(other);
          }
        }
      }
    }

    private void lift(int doubt) {
      if (!isOpen(doubt)) {
        return;
      }
      open[doubt] = false;
      int proof = doubtedProofs[doubt];
      if (isProof(proof)) {
        openWeights[proof] -= doubtWeights[doubt];
      }
    }

    boolean isProof(int proof) {
      return proof >= 0 && proof < count;
    }

    boolean isOpen(int doubt) {
      return doubt >= 0 && doubt < doubtCount && open[doubt];
    }

    boolean hasFallen(int proof) {
      return isProof(proof) && fallen[proof];
    }

    int countOpen(int proof) {
      int doubts = 0;
      for (int doubt = 0; doubt < doubtCount; doubt++) {
        if (doubtedProofs[doubt] == proof && open[doubt]) {
          doubts++;
        }
      }
      return doubts;
    }

    int strengthOf(int proof) {
      if (!isProof(proof) || fallen[proof]) {
        return 0;
      }
      return Math.max(0, weights[proof] - openWeights[proof]);
    }
  }

  /** Parents and children, as proofs tell them. */
  private static final class Kin {
    private final int[] firstParents = new int[MAX_PEOPLE];
    private final int[] secondParents = new int[MAX_PEOPLE];
    private final int[] childSets = new int[MAX_PEOPLE];
    private final int[] strengths = new int[MAX_PEOPLE];

    Kin() {
      Arrays.fill(firstParents, NONE);
      Arrays.fill(secondParents, NONE);
    }

    int firstParent(int person) {
      return person >= 0 && person < MAX_PEOPLE ? firstParents[person] : NONE;
    }

    int secondParent(int person) {
      return person >= 0 && person < MAX_PEOPLE ? secondParents[person] : NONE;
    }

    int childSet(int person) {
      return person >= 0 && person < MAX_PEOPLE ? childSets[person] : 0;
    }

    int parentSet(int person) {
      return setOf(firstParent(person)) | setOf(secondParent(person));
    }

    private static int setOf(int person) {
      return person == NONE ? 0 : 1 << person;
    }

    /** Tells all parents and children by the proofs that stand, as if one of them had fallen. */
    void tell(Proofs proofs, int fallenProof) {
      Arrays.fill(childSets, 0);
      for (int child = 0; child < MAX_PEOPLE; child++) {
        weigh(proofs, child, fallenProof);
        firstParents[child] = strongestBut(NONE);
        secondParents[child] = strongestBut(firstParents[child]);
        addChild(firstParents[child], child);
        addChild(secondParents[child], child);
      }
    }

    private void weigh(Proofs proofs, int child, int fallenProof) {
      Arrays.fill(strengths, 0);
      for (int proof = 0; proof < proofs.count; proof++) {
        int parent = proofs.parents[proof];
        if (proofs.children[proof] == child && proof != fallenProof
            && parent >= 0 && parent < MAX_PEOPLE) {
          strengths[parent] = Math.max(strengths[parent], proofs.strengthOf(proof));
        }
      }
    }

    private int strongestBut(int excluded) {
      int strongest = NONE;
      int most = 0;
      for (int person = 0; person < MAX_PEOPLE; person++) {
        if (person != excluded && strengths[person] > most) {
          strongest = person;
          most = strengths[person];
        }
      }
      return strongest;
    }

    private void addChild(int parent, int child) {
      if (parent >= 0 && parent < MAX_PEOPLE) {
        childSets[parent] |= 1 << child;
      }
    }
  }

  /** A share of the whole for each person, in lowest terms. */
  private static final class Shares {
    private final long[] above = new long[MAX_PEOPLE];
    private final long[] below = new long[MAX_PEOPLE];

    Shares() {
      Arrays.fill(below, 1);
    }

    void clear() {
      Arrays.fill(above, 0);
      Arrays.fill(below, 1);
    }

    void copy(Shares other) {
      System.arraycopy(other.above, 0, above, 0, MAX_PEOPLE);
      System.arraycopy(other.below, 0, below, 0, MAX_PEOPLE);
    }

    long aboveOf(int person) {
      return person >= 0 && person < MAX_PEOPLE ? above[person] : 0;
    }

    long belowOf(int person) {
      return person >= 0 && person < MAX_PEOPLE ? below[person] : 1;
    }

    void add(int person, long moreAbove, long moreBelow) {
      if (person < 0 || person >= MAX_PEOPLE || moreBelow <= 0) {
        return;
      }
      long sum = above[person] * moreBelow + moreAbove * below[person];
      long whole = below[person] * moreBelow;
      long common = commonDivisor(sum, whole);
      if (common > 0) {
        above[person] = sum / common;
        below[person] = whole / common;
      }
    }

    /** How many of some units a person gets by its share, rounded down. */
    int unitsFor(int person, int units) {
      long whole = belowOf(person);
      return whole > 0 ? (int) (units * aboveOf(person) / whole) : 0;
    }

    int countHeirs() {
      int heirs = 0;
      for (int person = 0; person < MAX_PEOPLE; person++) {
        if (above[person] > 0) {
          heirs++;
        }
      }
      return heirs;
    }

    boolean isSame(Shares other) {
      for (int person = 0; person < MAX_PEOPLE; person++) {
        if (above[person] != other.above[person] || below[person] != other.below[person]) {
          return false;
        }
      }
      return true;
    }

    private static long commonDivisor(long a, long b) {
      for (int division = 0; division < MAX_DIVISIONS && b != 0; division++) {
        long rest = a % b;
        a = b;
        b = rest;
      }
      return a;
    }
  }

  /** What a person leaves when it dies: its will, the claims to it, and how it was closed. */
  private static final class Estate {
    private final int dead;
    private final int[] weights = new int[MAX_PEOPLE];
    private final int[] claimants = new int[MAX_PEOPLE];
    private int claimCount = 0;
    private boolean closed = false;
    private int deadAtClosing = 0;
    private int closingDeed = MAX_DEEDS;
    private int reopenings = 0;
    private final Shares shares = new Shares();
    private final Shares sharesAnew = new Shares();
    private final int[] landBefore = new int[UNITS];

    Estate(int dead) {
      this.dead = dead;
    }

    int weightOf(int heir) {
      return heir >= 0 && heir < MAX_PEOPLE ? weights[heir] : 0;
    }

    int setWeight(int heir, int weight) {
      int before = weightOf(heir);
      if (heir >= 0 && heir < MAX_PEOPLE) {
        weights[heir] = weight;
      }
      return before;
    }

    boolean hasClaimOf(int person) {
      return placeOf(person) != NONE;
    }

    void addClaim(int person) {
      if (claimCount < MAX_PEOPLE) {
        claimants[claimCount] = person;
        claimCount++;
      }
    }

    boolean dropClaim(int person) {
      int place = placeOf(person);
      if (place == NONE) {
        return false;
      }
      for (int next = place + 1; next < claimCount; next++) {
        claimants[next - 1] = claimants[next];
      }
      claimCount--;
      return true;
    }

    private int placeOf(int person) {
      for (int place = 0; place < claimCount; place++) {
        if (claimants[place] == person) {
          return place;
        }
      }
      return NONE;
    }

    /** Writes the heirs by their rank into a row for all people, and returns how many. */
    int rankHeirs(Shares heirShares, int[] ranked) {
      int heirs = 0;
      for (int place = 0; place < claimCount; place++) {
        heirs = rankNext(claimants[place], heirShares, ranked, heirs);
      }
      for (int person = 0; person < MAX_PEOPLE; person++) {
        if (!hasClaimOf(person)) {
          heirs = rankNext(person, heirShares, ranked, heirs);
        }
      }
      return heirs;
    }

    private static int rankNext(int person, Shares heirShares, int[] ranked, int heirs) {
      if (heirShares.aboveOf(person) == 0 || heirs >= ranked.length) {
        return heirs;
      }
      ranked[heirs] = person;
      return heirs + 1;
    }
  }

  /** Shares estates out, in two ways that come to the same. */
  private static final class Court {
    // What comes to each person by kin, be it kept or shared out further.
    private final Shares coming = new Shares();
    private int aliveSet = 0;
    private int livingSet = 0;
    private int headSet = 0;
    private int foundSet = 0;

    /** Finds the shares from the heads down: whoever is not alive passes on what comes to it. */
    void shareFromHeads(Folk folk, Kin kin, Estate estate, Shares result) {
      lookAt(folk, kin, estate);
      coming.clear();
      for (int person = 0; person < MAX_PEOPLE; person++) {
        addAsHead(person);
      }
      for (int place = 0; place < folk.count; place++) {
        int person = folk.byAge(place);
        if (!isIn(aliveSet, person) && coming.aboveOf(person) > 0) {
          passOn(person, kin);
        }
      }
      joinWithWill(estate, result);
    }

    private void passOn(int person, Kin kin) {
      int lines = kin.childSet(person) & livingSet;
      long below = coming.belowOf(person) * Integer.bitCount(lines);
      for (int child = 0; child < MAX_PEOPLE; child++) {
        if (isIn(lines, child)) {
          coming.add(child, coming.aboveOf(person), below);
        }
      }
    }

    /** Finds the shares from each person up: asks its parents for what comes to them. */
    void shareFromPersons(Folk folk, Kin kin, Estate estate, Shares result) {
      lookAt(folk, kin, estate);
      coming.clear();
      foundSet = 0;
      for (int person = 0; person < folk.count; person++) {
        if (isIn(aliveSet, person)) {
          findComing(person, kin, 0);
        }
      }
      joinWithWill(estate, result);
    }

    private void findComing(int person, Kin kin, int depth) {
      // A parent is born before its child, so no line goes deeper than there are people.
      if (depth >= MAX_PEOPLE || isIn(foundSet, person) || !isIn(livingSet, person)) {
        return;
      }
      foundSet |= 1 << person;
      addAsHead(person);
      addPartOf(kin.firstParent(person), person, kin, depth);
      addPartOf(kin.secondParent(person), person, kin, depth);
    }

    private void addPartOf(int parent, int person, Kin kin, int depth) {
      if (parent == NONE || isIn(aliveSet, parent)) {
        return;
      }
      findComing(parent, kin, depth + 1);
      int lines = Integer.bitCount(kin.childSet(parent) & livingSet);
      coming.add(person, coming.aboveOf(parent), coming.belowOf(parent) * lines);
    }

    private void addAsHead(int person) {
      if (isIn(headSet, person)) {
        coming.add(person, 1, Integer.bitCount(headSet));
      }
    }

    private void lookAt(Folk folk, Kin kin, Estate estate) {
      // Whoever was registered behind the closing is in no set of the dead, so it was alive.
      aliveSet = ~(estate.closed ? estate.deadAtClosing : folk.deadSet);
      livingSet = findLivingLines(folk, kin, estate);
      headSet = findHeads(kin, estate.dead);
    }

    private int findLivingLines(Folk folk, Kin kin, Estate estate) {
      int living = 0;
      int lastDay = folk.diedOn(estate.dead);
      for (int place = folk.count - 1; place >= 0; place--) {
        int person = folk.byAge(place);
        boolean isLiving = isIn(aliveSet, person) && folk.bornOn(person) <= lastDay;
        if (isLiving || (kin.childSet(person) & living) != 0) {
          living |= 1 << person;
        }
      }
      return living;
    }

    private int findHeads(Kin kin, int dead) {
      if (isIn(livingSet, dead)) {
        return 1 << dead;
      }
      int parents = kin.parentSet(dead);
      if ((parents & livingSet) != 0) {
        return parents & livingSet;
      }
      int grandparents =
          kin.parentSet(kin.firstParent(dead)) | kin.parentSet(kin.secondParent(dead));
      return grandparents & livingSet;
    }

    private void joinWithWill(Estate estate, Shares result) {
      int weightSum = 0;
      for (int person = 0; person < MAX_PEOPLE; person++) {
        weightSum += weightFor(estate, person);
      }
      boolean hasWill = weightSum > 0;
      boolean hasKin = !hasWill || isIn(livingSet, estate.dead);
      int parts = hasWill && hasKin ? 2 : 1;
      result.clear();
      for (int person = 0; person < MAX_PEOPLE; person++) {
        if (hasWill) {
          result.add(person, weightFor(estate, person), (long) weightSum * parts);
        }
        if (hasKin && isIn(aliveSet, person)) {
          result.add(person, coming.aboveOf(person), coming.belowOf(person) * parts);
        }
      }
    }

    private int weightFor(Estate estate, int person) {
      return isIn(aliveSet, person) ? estate.weightOf(person) : 0;
    }
  }

  /** Deeds in the order in which they were done, and the land as they leave it. */
  private static final class Land {
    private final int[] givers = new int[MAX_DEEDS];
    private final int[] takers = new int[MAX_DEEDS];
    private final int[] froms = new int[MAX_DEEDS];
    private final int[] tos = new int[MAX_DEEDS];
    private final boolean[] closings = new boolean[MAX_DEEDS];
    private int deeds = 0;
    private int handings = 0;
    private final boolean[] granted = new boolean[UNITS];
    private final int[] owners = new int[UNITS];
    private final int[] otherOwners = new int[UNITS];
    private final int[] ranked = new int[MAX_PEOPLE];
    private final int[] portions = new int[MAX_PEOPLE];

    Land() {
      Arrays.fill(owners, NONE);
    }

    int keptOwner(int unit) {
      return unit >= 0 && unit < UNITS ? owners[unit] : NONE;
    }

    boolean isGrantedWithin(int from, int to) {
      for (int unit = Math.max(from, 0); unit < to && unit < UNITS; unit++) {
        if (granted[unit]) {
          return true;
        }
      }
      return false;
    }

    int countUnits(int person, int from, int to) {
      return countIn(owners, person, from, to);
    }

    int parcelStart(int unit) {
      int start = unit;
      while (start > 0 && keptOwner(start - 1) == keptOwner(unit)) {
        start--;
      }
      return start;
    }

    int parcelEnd(int unit) {
      int end = unit + 1;
      while (end < UNITS && keptOwner(end) == keptOwner(unit)) {
        end++;
      }
      return end;
    }

    void enterGrant(int person, int from, int to) {
      for (int unit = Math.max(from, 0); unit < to && unit < UNITS; unit++) {
        granted[unit] = true;
      }
      // Units that were never granted are nobody's, so it is nobody who hands them.
      handOver(owners, enter(NONE, person, from, to));
    }

    void enterHanding(int person, int other, int from, int to) {
      handings++;
      handOver(owners, enter(person, other, from, to));
    }

    /** Returns the number of the deed. */
    int enterClosing(Estate estate) {
      int deed = enter(estate.dead, NONE, 0, UNITS);
      if (deed < MAX_DEEDS) {
        closings[deed] = true;
      }
      drawKept(estate);
      return deed;
    }

    private int enter(int giver, int taker, int from, int to) {
      if (deeds >= MAX_DEEDS) {
        return MAX_DEEDS;
      }
      givers[deeds] = giver;
      takers[deeds] = taker;
      froms[deeds] = from;
      tos[deeds] = to;
      deeds++;
      return deeds - 1;
    }

    /** Draws the land anew from a closing on, and returns how many units change hands. */
    int redrawFrom(int closing, Estate[] estates) {
      if (closing < 0 || closing >= deeds || !isPlace(givers[closing], estates)) {
        return 0;
      }
      System.arraycopy(owners, 0, otherOwners, 0, UNITS);
      System.arraycopy(estates[givers[closing]].landBefore, 0, owners, 0, UNITS);
      for (int deed = closing; deed < deeds; deed++) {
        if (!closings[deed]) {
          handOver(owners, deed);
        } else if (isPlace(givers[deed], estates)) {
          drawKept(estates[givers[deed]]);
        }
      }
      int changed = 0;
      for (int unit = 0; unit < UNITS; unit++) {
        if (owners[unit] != otherOwners[unit]) {
          changed++;
        }
      }
      return changed;
    }

    /** Finds to whom a unit belongs by doing all deeds anew, by the shares found anew. */
    int foundOwner(int unit, Estate[] estates) {
      Arrays.fill(otherOwners, NONE);
      for (int deed = 0; deed < deeds; deed++) {
        if (!closings[deed]) {
          handOver(otherOwners, deed);
        } else if (isPlace(givers[deed], estates)) {
          Estate estate = estates[givers[deed]];
          draw(otherOwners, estate, estate.sharesAnew);
        }
      }
      return unit >= 0 && unit < UNITS ? otherOwners[unit] : NONE;
    }

    private void handOver(int[] row, int deed) {
      if (deed < 0 || deed >= deeds) {
        return;
      }
      for (int unit = Math.max(froms[deed], 0); unit < tos[deed] && unit < row.length; unit++) {
        if (row[unit] == givers[deed]) {
          row[unit] = takers[deed];
        }
      }
    }

    /** Draws an estate on the kept land, and notes how it found it, to start there once more. */
    private void drawKept(Estate estate) {
      System.arraycopy(owners, 0, estate.landBefore, 0, UNITS);
      draw(owners, estate, estate.shares);
    }

    private void draw(int[] row, Estate estate, Shares shares) {
      int heirs = estate.rankHeirs(shares, ranked);
      portionOut(countIn(row, estate.dead, 0, UNITS), heirs, shares);
      int heir = 0;
      for (int unit = 0; unit < row.length; unit++) {
        if (row[unit] == estate.dead) {
          while (heir < heirs && heir < MAX_PEOPLE && portions[heir] == 0) {
            heir++;
          }
          row[unit] = takeFrom(heir, heirs);
        }
      }
    }

    private int takeFrom(int heir, int heirs) {
      if (heir < 0 || heir >= heirs || heir >= MAX_PEOPLE) {
        return NONE;
      }
      portions[heir]--;
      return ranked[heir];
    }

    private void portionOut(int units, int heirs, Shares shares) {
      int left = units;
      for (int heir = 0; heir < heirs && heir < MAX_PEOPLE; heir++) {
        portions[heir] = shares.unitsFor(ranked[heir], units);
        left -= portions[heir];
      }
      for (int heir = 0; heir < heirs && heir < MAX_PEOPLE && left > 0; heir++) {
        portions[heir]++;
        left--;
      }
    }

    private static boolean isPlace(int place, Estate[] estates) {
      return place >= 0 && place < estates.length;
    }

    private static int countIn(int[] row, int person, int from, int to) {
      int units = 0;
      for (int unit = Math.max(from, 0); unit < to && unit < row.length; unit++) {
        if (row[unit] == person) {
          units++;
        }
      }
      return units;
    }
  }
}
