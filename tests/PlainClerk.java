import java.math.BigInteger;
import java.util.ArrayList;
import java.util.LinkedHashSet;
import java.util.List;
import java.util.NoSuchElementException;
import java.util.Set;
import java.util.TreeMap;
import java.util.TreeSet;

/**
 * The document's words once more, as plainly as can be and without anything kept: kin, shares and
 * land are found from the whole history whenever they are asked for. Treeclerk is held against it.
 */
final class PlainClerk {
  private record Fraction(BigInteger above, BigInteger below) {
    static Fraction of(long above, long below) {
      return new Fraction(BigInteger.valueOf(above), BigInteger.valueOf(below)).lowest();
    }

    Fraction lowest() {
      BigInteger common = above.gcd(below);
      return new Fraction(above.divide(common), below.divide(common));
    }

    Fraction plus(Fraction other) {
      return new Fraction(
          above.multiply(other.below).add(other.above.multiply(below)),
          below.multiply(other.below)).lowest();
    }

    Fraction over(int parts) {
      return new Fraction(above, below.multiply(BigInteger.valueOf(parts))).lowest();
    }
  }

  private static final class Person {
    int born;
    int died;
    // The place in the order of all calls, so that "behind the closing" can be told.
    int deathCall = Integer.MAX_VALUE;
    int closingCall = Integer.MAX_VALUE;
    final int[] will = new int[14];
    final List<Integer> claims = new ArrayList<>();
    int reopenings;

    boolean isDead() {
      return deathCall != Integer.MAX_VALUE;
    }

    boolean isClosed() {
      return closingCall != Integer.MAX_VALUE;
    }
  }

  private record Proof(int parent, int child, int weight) {}

  private record Doubt(int proof, int weight) {}

  private record Deed(char kind, int person, int other, int from, int to) {}

  private final List<Person> persons = new ArrayList<>();
  private final List<Proof> proofs = new ArrayList<>();
  private final List<Doubt> doubts = new ArrayList<>();
  private final Set<Integer> fallen = new TreeSet<>();
  private final Set<Integer> judged = new TreeSet<>();
  private final List<Deed> deeds = new ArrayList<>();
  private int today;
  private int calls;

  int pass(int days) {
    if (days < 1 || days > 100) throw new IllegalArgumentException();
    if (today + days > 2000) throw new IllegalStateException();
    return today += days;
  }

  int today() {
    return today;
  }

  int birth(int day) {
    if (day < 0 || day > today) throw new IllegalArgumentException();
    if (persons.size() == 14) throw new IllegalStateException();
    Person p = new Person();
    p.born = day;
    persons.add(p);
    return persons.size() - 1;
  }

  int death(int person) {
    Person p = known(person);
    if (p.isDead()) throw new IllegalStateException();
    p.died = today;
    p.deathCall = ++calls;
    int gone = 0;
    for (Person other : persons) {
      if (!other.isClosed() && other.claims.remove((Integer) person)) gone++;
    }
    return gone;
  }

  int people() {
    return persons.size();
  }

  boolean isAlive(int person) {
    return !known(person).isDead();
  }

  int proof(int parent, int child, int weight) {
    Person p = known(parent);
    Person c = known(child);
    if (weight < 1 || weight > 9 || c.born <= p.born) throw new IllegalArgumentException();
    if (proofs.size() == 30) throw new IllegalStateException();
    retold(() -> proofs.add(new Proof(parent, child, weight)));
    return proofs.size() - 1;
  }

  int doubt(int proof, int weight) {
    if (proof < 0 || proof >= proofs.size()) throw new IndexOutOfBoundsException();
    if (weight < 1 || weight > 9) throw new IllegalArgumentException();
    if (fallen.contains(proof) || doubts.size() == 30) throw new IllegalStateException();
    retold(() -> doubts.add(new Doubt(proof, weight)));
    return doubts.size() - 1;
  }

  int judge(int doubt, boolean isUpheld) {
    if (doubt < 0 || doubt >= doubts.size()) throw new IndexOutOfBoundsException();
    if (!isOpen(doubt)) throw new IllegalStateException();
    return retold(() -> {
      judged.add(doubt);
      if (isUpheld) fallen.add(doubts.get(doubt).proof());
    });
  }

  int strength(int proof) {
    if (proof < 0 || proof >= proofs.size()) throw new IndexOutOfBoundsException();
    return strengthUnless(proof, -1);
  }

  int openDoubts() {
    int open = 0;
    for (int d = 0; d < doubts.size(); d++) if (isOpen(d)) open++;
    return open;
  }

  int parentOf(int person, int place) {
    known(person);
    if (place < 0 || place > 1) throw new IllegalArgumentException();
    List<Integer> parents = parents(person, -1);
    return place < parents.size() ? parents.get(place) : -1;
  }

  int childrenOf(int person) {
    known(person);
    int set = 0;
    for (int child : children(person, -1)) set |= 1 << child;
    return set;
  }

  int will(int person, int heir, int weight) {
    Person p = known(person);
    known(heir);
    if (person == heir || weight < 0 || weight > 9) throw new IllegalArgumentException();
    if (p.isDead()) throw new IllegalStateException();
    int before = p.will[heir];
    p.will[heir] = weight;
    return before;
  }

  int claim(int person, int dead) {
    Person p = known(person);
    Person d = known(dead);
    if (p.isDead() || !d.isDead() || d.isClosed() || d.claims.contains(person)) {
      throw new IllegalStateException();
    }
    d.claims.add(person);
    return d.claims.size();
  }

  int claims(int dead) {
    return known(dead).claims.size();
  }

  int close(int dead) {
    Person d = known(dead);
    if (!d.isDead() || d.isClosed()) throw new IllegalStateException();
    d.closingCall = ++calls;
    deeds.add(new Deed('c', dead, -1, 0, 60));
    return shares(dead, -1).size();
  }

  boolean isClosed(int person) {
    return known(person).isClosed();
  }

  long shareAbove(int person, int dead) {
    known(person);
    requireDead(dead);
    Fraction share = shares(dead, -1).get(person);
    return share == null ? 0 : share.above().longValueExact();
  }

  long shareBelow(int person, int dead) {
    known(person);
    requireDead(dead);
    Fraction share = shares(dead, -1).get(person);
    return share == null ? 1 : share.below().longValueExact();
  }

  int heirs(int dead) {
    requireDead(dead);
    return shares(dead, -1).size();
  }

  int disputes(int dead) {
    requireDead(dead);
    int disputes = 0;
    for (int d = 0; d < doubts.size(); d++) {
      if (isOpen(d) && !shares(dead, doubts.get(d).proof()).equals(shares(dead, -1))) disputes++;
    }
    return disputes;
  }

  int reopenings(int dead) {
    return known(dead).reopenings;
  }

  int grant(int person, int from, int to) {
    Person p = known(person);
    if (from < 0 || from > 59 || to <= from || to > 60) throw new IllegalArgumentException();
    if (p.isDead()) throw new IllegalStateException();
    for (Deed deed : deeds) {
      if (deed.kind() == 'g' && deed.from() < to && from < deed.to()) {
        throw new IllegalStateException();
      }
    }
    deeds.add(new Deed('g', person, -1, from, to));
    return to - from;
  }

  int hand(int person, int other, int from, int to) {
    Person p = known(person);
    Person o = known(other);
    if (person == other) throw new IllegalArgumentException();
    if (from < 0 || from > 59 || to <= from || to > 60) throw new IllegalArgumentException();
    int[] land = land();
    int units = 0;
    for (int u = from; u < to; u++) if (land[u] == person) units++;
    long handings = deeds.stream().filter(deed -> deed.kind() == 'h').count();
    if (p.isDead() || o.isDead() || units == 0 || handings == 60) throw new IllegalStateException();
    deeds.add(new Deed('h', person, other, from, to));
    return units;
  }

  int owner(int unit) {
    if (unit < 0 || unit > 59) throw new IndexOutOfBoundsException();
    return land()[unit];
  }

  int area(int person) {
    known(person);
    int area = 0;
    for (int owner : land()) if (owner == person) area++;
    return area;
  }

  int parcels() {
    int[] land = land();
    int parcels = 0;
    int before = -1;
    for (int owner : land) {
      if (owner != -1 && owner != before) parcels++;
      before = owner;
    }
    return parcels;
  }

  int parcelAt(int unit) {
    if (unit < 0 || unit > 59) throw new IndexOutOfBoundsException();
    int[] land = land();
    if (land[unit] == -1) throw new NoSuchElementException();
    int length = 0;
    for (int u = 0; u <= 60; u++) {
      if (u < 60 && land[u] == land[unit]) {
        length++;
      } else if (u > unit) {
        return 100 * (u - length) + length;
      } else {
        length = 0;
      }
    }
    throw new AssertionError();
  }

  private Person known(int person) {
    if (person < 0 || person >= persons.size()) throw new IndexOutOfBoundsException();
    return persons.get(person);
  }

  private void requireDead(int dead) {
    if (!known(dead).isDead()) throw new IllegalStateException();
  }

  private boolean isOpen(int doubt) {
    return !judged.contains(doubt) && !fallen.contains(doubts.get(doubt).proof());
  }

  private int retold(Runnable change) {
    List<TreeMap<Integer, Fraction>> before = new ArrayList<>();
    for (int d = 0; d < persons.size(); d++) {
      before.add(persons.get(d).isClosed() ? shares(d, -1) : null);
    }
    int[] landBefore = land();
    change.run();
    for (int d = 0; d < persons.size(); d++) {
      if (before.get(d) != null && !before.get(d).equals(shares(d, -1))) persons.get(d).reopenings++;
    }
    int[] landBehind = land();
    int changed = 0;
    for (int u = 0; u < 60; u++) if (landBefore[u] != landBehind[u]) changed++;
    return changed;
  }

  // In all that follows, "without" is a proof taken as fallen, or -1.

  private int strengthUnless(int proof, int without) {
    if (proof == without || fallen.contains(proof)) return 0;
    int strength = proofs.get(proof).weight();
    for (int d = 0; d < doubts.size(); d++) {
      if (isOpen(d) && doubts.get(d).proof() == proof) strength -= doubts.get(d).weight();
    }
    return Math.max(strength, 0);
  }

  private List<Integer> parents(int child, int without) {
    TreeMap<Integer, Integer> strongest = new TreeMap<>();
    for (int p = 0; p < proofs.size(); p++) {
      int strength = strengthUnless(p, without);
      if (proofs.get(p).child() == child && strength > 0) {
        strongest.merge(proofs.get(p).parent(), strength, Math::max);
      }
    }
    List<Integer> parents = new ArrayList<>(strongest.keySet());
    parents.sort((a, b) -> strongest.get(b) - strongest.get(a));
    return parents.subList(0, Math.min(2, parents.size()));
  }

  private List<Integer> children(int parent, int without) {
    List<Integer> children = new ArrayList<>();
    for (int c = 0; c < persons.size(); c++) {
      if (parents(c, without).contains(parent)) children.add(c);
    }
    return children;
  }

  private boolean wasAlive(int person, Person dead) {
    return persons.get(person).deathCall > dead.closingCall
        || !persons.get(person).isDead();
  }

  private boolean isLiving(int person, Person dead, int without) {
    if (persons.get(person).born <= dead.died && wasAlive(person, dead)) return true;
    for (int child : children(person, without)) if (isLiving(child, dead, without)) return true;
    return false;
  }

  private List<Integer> livingOf(Iterable<Integer> all, Person dead, int without) {
    List<Integer> living = new ArrayList<>();
    for (int person : all) if (isLiving(person, dead, without)) living.add(person);
    return living;
  }

  private TreeMap<Integer, Fraction> kinShares(int dead, int without) {
    Person d = persons.get(dead);
    Set<Integer> heads = new LinkedHashSet<>(List.of(dead));
    List<Integer> living = livingOf(heads, d, without);
    for (int generation = 1; generation <= 2 && living.isEmpty(); generation++) {
      Set<Integer> parents = new LinkedHashSet<>();
      for (int head : heads) parents.addAll(parents(head, without));
      heads = parents;
      living = livingOf(heads, d, without);
    }
    TreeMap<Integer, Fraction> shares = new TreeMap<>();
    for (int head : living) {
      giveTo(head, Fraction.of(1, living.size()), d, without, shares);
    }
    return shares;
  }

  private void giveTo(
      int person, Fraction part, Person dead, int without, TreeMap<Integer, Fraction> shares) {
    if (wasAlive(person, dead)) {
      shares.merge(person, part, Fraction::plus);
      return;
    }
    List<Integer> living = livingOf(children(person, without), dead, without);
    for (int child : living) giveTo(child, part.over(living.size()), dead, without, shares);
  }

  private TreeMap<Integer, Fraction> shares(int dead, int without) {
    Person d = persons.get(dead);
    TreeMap<Integer, Fraction> byKin = kinShares(dead, without);
    TreeMap<Integer, Fraction> byWill = new TreeMap<>();
    int sum = 0;
    for (int p = 0; p < persons.size(); p++) if (wasAlive(p, d)) sum += d.will[p];
    for (int p = 0; p < persons.size(); p++) {
      if (wasAlive(p, d) && d.will[p] > 0) byWill.put(p, Fraction.of(d.will[p], sum));
    }
    boolean lineIsLiving = isLiving(dead, d, without);
    if (!byWill.isEmpty() && !lineIsLiving) return byWill;
    if (byWill.isEmpty()) return byKin;
    TreeMap<Integer, Fraction> together = new TreeMap<>();
    byWill.forEach((p, share) -> together.merge(p, share.over(2), Fraction::plus));
    byKin.forEach((p, share) -> together.merge(p, share.over(2), Fraction::plus));
    return together;
  }

  private int[] land() {
    int[] land = new int[60];
    java.util.Arrays.fill(land, -1);
    for (Deed deed : deeds) {
      switch (deed.kind()) {
        case 'g' -> {
          for (int u = deed.from(); u < deed.to(); u++) land[u] = deed.person();
        }
        case 'h' -> {
          for (int u = deed.from(); u < deed.to(); u++) {
            if (land[u] == deed.person()) land[u] = deed.other();
          }
        }
        default -> draw(land, deed.person());
      }
    }
    return land;
  }

  private void draw(int[] land, int dead) {
    List<Integer> units = new ArrayList<>();
    for (int u = 0; u < 60; u++) if (land[u] == dead) units.add(u);
    TreeMap<Integer, Fraction> shares = shares(dead, -1);
    Set<Integer> ranked = new LinkedHashSet<>(persons.get(dead).claims);
    for (int p = 0; p < persons.size(); p++) ranked.add(p);
    ranked.retainAll(shares.keySet());
    TreeMap<Integer, Integer> parts = new TreeMap<>();
    int left = units.size();
    for (int heir : ranked) {
      Fraction share = shares.get(heir);
      int part = BigInteger.valueOf(units.size()).multiply(share.above()).divide(share.below())
          .intValueExact();
      parts.put(heir, part);
      left -= part;
    }
    int next = 0;
    for (int heir : ranked) {
      int part = parts.get(heir) + (left-- > 0 ? 1 : 0);
      for (int i = 0; i < part; i++) land[units.get(next++)] = heir;
    }
    if (ranked.isEmpty()) for (int u : units) land[u] = -1;
  }
}
