import java.math.BigInteger;
import java.util.ArrayList;
import java.util.Arrays;
import java.util.List;
import java.util.function.Function;
import java.util.function.ToIntFunction;

/**
 * A second program by the same document, written another way (kinds as classes, worlds that are
 * copied, texts cut into tokens first): ModelTest asks both and compares.
 */
final class OtherWood {
  static class Plank {
    int house, grain, tone, cracks, age, taken;

    int kind() { return 0; }
    int hears(World w) { return w.loud[house]; }
    int follows(World w) { return (w.mood[house] - tone) / 10; }
    boolean rings() { return grain >= 100; }
    int splits(World w) { return w.loud[house] >= 8 && w.year % 5 == 0 ? 1 : 0; }
    int fetches() { return Math.max(0, grain / 10 + tone - 5 * cracks); }
  }

  static class Spruce extends Plank {
    @Override int kind() { return 1; }
    @Override int hears(World w) { return 2 * super.hears(w); }
    @Override int follows(World w) { return (w.mood[house] - tone) / 5; }
    @Override boolean rings() { return super.rings() || grain >= 60 && tone >= 30; }
    @Override int fetches() { return 2 * super.fetches(); }
  }

  static class Fir extends Spruce {
    @Override int kind() { return 6; }
    @Override int hears(World w) { return Math.max(0, super.hears(w) - 1); }
    @Override boolean rings() { return super.rings() && !(cracks > 2); }
    @Override int splits(World w) { return super.splits(w) + (tone == 0 ? 1 : 0); }
  }

  static class Maple extends Plank {
    @Override int kind() { return 2; }
    @Override int hears(World w) { return super.hears(w) + (w.loud[house] <= 2 ? 4 : 0); }
    @Override int follows(World w) { return super.follows(w) + (w.mood[house] > tone ? 1 : 0); }
    @Override int fetches() { return super.fetches() + 10; }
  }

  static class Pear extends Maple {
    @Override int kind() { return 3; }
    @Override int hears(World w) {
      int others = 0;
      for (Plank p : w.planks) {
        if (p != this && p.house == house) {
          others++;
        }
      }
      return super.hears(w) + others;
    }
    @Override int follows(World w) { return 2 * super.follows(w); }
    @Override boolean rings() { return super.rings() && age >= 20; }
  }

  static class Ebony extends Pear {
    @Override int kind() { return 4; }
    @Override int hears(World w) { return 1; }
    @Override int follows(World w) { return 0; }
    @Override boolean rings() { return age >= 40; }
    @Override int splits(World w) { return 0; }
    @Override int fetches() { return 3 * super.fetches(); }
  }

  static class Deal extends Plank {
    @Override int kind() { return 5; }
    @Override int hears(World w) { return w.mood[house] < 30 ? 0 : super.hears(w); }
    @Override boolean rings() { return false; }
    @Override int splits(World w) { return w.year % 2 == 1 ? 1 : 0; }
    @Override int fetches() { return 1; }
  }

  static final List<Class<? extends Plank>> KINDS = List.of(
      Plank.class, Spruce.class, Maple.class, Pear.class, Ebony.class, Deal.class, Fir.class);
  static final List<String> WORDS = List.of("plank", "spruce", "maple", "pear", "ebony", "deal", "fir");
  static final int[] MOST = {6, 5, 999, 99, 9, 9999, 9999};

  static Plank make(int kind) {
    switch (kind) {
      case 0: return new Plank();
      case 1: return new Spruce();
      case 2: return new Maple();
      case 3: return new Pear();
      case 4: return new Ebony();
      case 5: return new Deal();
      default: return new Fir();
    }
  }

  static Plank like(Plank p, int kind) {
    Plank q = make(kind);
    q.house = p.house;
    q.grain = p.grain;
    q.tone = p.tone;
    q.cracks = p.cracks;
    q.age = p.age;
    q.taken = p.taken;
    return q;
  }

  static final class World {
    int[] loud = {3, 3, 3, 3, 3, 3};
    int[] mood = {50, 50, 50, 50, 50, 50};
    int[] list = {50, 50, 50, 50, 50, 50};
    int each = 30, gold = 0, year = 0, z = 1;
    List<Plank> planks = new ArrayList<>();
    int[] spots = {-1, -1, -1, -1, -1, -1, -1, -1, -1, -1};

    World copied() {
      World w = new World();
      w.loud = loud.clone();
      w.mood = mood.clone();
      w.list = list.clone();
      w.each = each;
      w.gold = gold;
      w.year = year;
      w.z = z;
      for (Plank p : planks) {
        w.planks.add(like(p, p.kind()));
      }
      w.spots = spots.clone();
      return w;
    }

    World year() {
      mood[list[year % 6] / 100] = list[year % 6] % 100;
      for (Plank p : planks) {
        int[] three = {p.hears(this), p.follows(this), p.splits(this)};
        p.grain = Math.min(999, p.grain + three[0]);
        p.tone = Math.max(0, Math.min(99, p.tone + three[1]));
        p.cracks = Math.min(9, p.cracks + three[2]);
        p.age = Math.min(9999, p.age + 1);
      }
      if (year % each == 0) {
        for (Plank p : planks) {
          if (p.rings()) {
            gold = Math.min(99999, gold + p.fetches());
            p.taken = Math.min(9999, p.taken + 1);
            p.grain = p.tone = p.cracks = p.age = 0;
          }
        }
      }
      year = Math.min(99999, year + 1);
      return this;
    }

    World years(int n) {
      for (int i = 0; i < n; i++) {
        year();
      }
      return this;
    }

    int draw() {
      z = z * 1103515245 + 12345;
      return z >>> 8;
    }

    int set(Function<Plank, Boolean> such) {
      int set = 0;
      for (int i = 0; i < planks.size(); i++) {
        if (such.apply(planks.get(i))) {
          set += 1 << i;
        }
      }
      return set;
    }

    int sum(ToIntFunction<Plank> of) {
      return planks.stream().mapToInt(of).sum();
    }

    int get(int p, int what) {
      Plank k = planks.get(p);
      int[] all = {k.kind(), k.house, k.grain, k.tone, k.cracks, k.age, k.taken, k.hears(this),
          k.follows(this), k.rings() ? 1 : 0, k.splits(this), k.fetches()};
      return all[what];
    }

    World with(int p, int what, int v) {
      Plank k = planks.get(p);
      switch (what) {
        case 0: planks.set(p, like(k, v)); break;
        case 1: k.house = v; break;
        case 2: k.grain = v; break;
        case 3: k.tone = v; break;
        case 4: k.cracks = v; break;
        case 5: k.age = v; break;
        default: k.taken = v; break;
      }
      return this;
    }
  }

  private static final int LOW = -1000001;
  private World w = new World();
  private World kept = null;
  private String tape = "";
  private final long[][] sheets = new long[4][];
  private final int[] bitsOf = new int[4];
  private final int[] told = new int[7];

  private int f(int which) {
    told[which]++;
    return LOW - which;
  }

  private static boolean in(int v, int a, int b) {
    return a <= v && v <= b;
  }

  private boolean p(int plank) {
    return in(plank, 0, w.planks.size() - 1);
  }

  int house(int house, int what, int v) {
    if (!in(house, 0, 5) || !in(what, 0, 1) || !in(v, 0, what == 0 ? 9 : 99)) {
      return f(0);
    }
    int[] row = what == 0 ? w.loud : w.mood;
    int was = row[house];
    row[house] = v;
    return was;
  }

  int houseOf(int house, int what) {
    if (!in(house, 0, 5) || !in(what, 0, 2)) {
      return f(0);
    }
    return new int[] {w.loud[house], w.mood[house], w.set(k -> k.house == house)}[what];
  }

  int event(int i, int v) {
    if (!in(i, 0, 5) || !in(v, 0, 599)) {
      return f(0);
    }
    int was = w.list[i];
    w.list[i] = v;
    return was;
  }

  int listed(int i) {
    return in(i, 0, 5) ? w.list[i] : f(0);
  }

  int each(int v) {
    if (!in(v, 2, 60)) {
      return f(0);
    }
    int was = w.each;
    w.each = v;
    return was;
  }

  int plank(int kind, int house) {
    if (!in(kind, 0, 6) || !in(house, 0, 5)) {
      return f(0);
    }
    if (w.planks.size() == 8) {
      return f(1);
    }
    Plank k = make(kind);
    k.house = house;
    w.planks.add(k);
    return w.planks.size() - 1;
  }

  int of(int plank, int what) {
    return p(plank) && in(what, 0, 11) ? w.get(plank, what) : f(0);
  }

  int change(int plank, int what, int v) {
    if (!p(plank) || !in(what, 0, 6) || !in(v, 0, MOST[what])) {
      return f(0);
    }
    int was = w.get(plank, what);
    w.with(plank, what, v);
    return was;
  }

  int go(int n) {
    if (!in(n, 1, 60)) {
      return f(0);
    }
    return w.year + n > 99999 ? f(4) : w.years(n).gold;
  }

  int now(int what) {
    if (!in(what, 0, 7)) {
      return f(0);
    }
    int dearest = -1;
    for (int i = w.planks.size() - 1; i >= 0; i--) {
      if (dearest < 0 || w.planks.get(i).fetches() >= w.planks.get(dearest).fetches()) {
        dearest = i;
      }
    }
    return new int[] {w.year, w.gold, w.set(Plank::rings), w.sum(k -> k.grain), w.sum(k -> k.cracks),
        dearest, w.sum(k -> k.taken), w.year % w.each == 0 ? 1 : 0}[what];
  }

  int ahead(int plank, int what, int n) {
    if (!p(plank) || !(in(what, 2, 6) || what == 11) || !in(n, 0, 100)) {
      return f(0);
    }
    return w.copied().years(n).get(plank, what);
  }

  int gold(int n) {
    return in(n, 0, 100) ? w.copied().years(n).gold : f(0);
  }

  private int until(Function<World, Boolean> such) {
    World t = w.copied();
    int n = 0;
    while (n <= 200 && !such.apply(t)) {
      t.year();
      n++;
    }
    return n <= 200 ? n : f(3);
  }

  int rings(int plank) {
    return p(plank) ? until(t -> t.planks.get(plank).rings()) : f(0);
  }

  int taken(int plank, int v) {
    return p(plank) && in(v, 0, 9999) ? until(t -> t.planks.get(plank).taken >= v) : f(0);
  }

  int tuned(int plank, int v) {
    return p(plank) && in(v, 0, 99) ? until(t -> t.planks.get(plank).tone >= v) : f(0);
  }

  private int most(int from, int to, Function<Integer, World> world, int n) {
    int best = to;
    int[] gold = new int[to + 1];
    for (int c = to; c >= from; c--) {
      gold[c] = world.apply(c).years(n).gold;
      best = gold[c] >= gold[best] ? c : best;
    }
    return best;
  }

  int billet(int plank, int n) {
    if (!p(plank) || !in(n, 0, 60)) {
      return f(0);
    }
    return most(0, 5, h -> w.copied().with(plank, 1, h), n);
  }

  int kindFor(int plank, int n) {
    if (!p(plank) || !in(n, 0, 60)) {
      return f(0);
    }
    return most(0, 6, k -> w.copied().with(plank, 0, k), n);
  }

  int loudFor(int house, int plank, int n) {
    if (!in(house, 0, 5) || !p(plank) || !in(n, 0, 60)) {
      return f(0);
    }
    for (int loud = 0; loud < 10; loud++) {
      World t = w.copied();
      t.loud[house] = loud;
      if (t.years(n).planks.get(plank).rings()) {
        return loud;
      }
    }
    return f(3);
  }

  int eachFor(int n) {
    if (!in(n, 0, 60)) {
      return f(0);
    }
    return most(2, 60, each -> {
      World t = w.copied();
      t.each = each;
      return t;
    }, n);
  }

  int moveAll(int house, int n) {
    if (!in(house, 0, 5) || !in(n, 0, 20)) {
      return f(0);
    }
    int best = -1;
    for (int set = 0; set < 1 << w.planks.size(); set++) {
      World t = w.copied();
      for (int i = 0; i < w.planks.size(); i++) {
        if ((set & 1 << i) != 0) {
          t.with(i, 1, house);
        }
      }
      if (t.years(n).planks.stream().allMatch(Plank::rings)
          && (best < 0 || Integer.bitCount(set) < Integer.bitCount(best))) {
        best = set;
      }
    }
    return best < 0 ? f(3) : best;
  }

  private int told(int s, int plank, int choices, int chosen, int shown) {
    if (!in(s, 0, 3)) {
      return f(0);
    }
    if (sheets[s] == null) {
      return f(5);
    }
    if (!p(plank)) {
      return f(0);
    }
    int set = 0;
    for (int c = 0; c < choices; c++) {
      boolean fits = true;
      for (int i = 0; i < sheets[s].length; i++) {
        int is = w.copied().with(plank, chosen, c).years(i).get(plank, shown);
        fits &= sheets[s][i] == -1 || sheets[s][i] == is;
      }
      set += fits ? 1 << c : 0;
    }
    return set;
  }

  int fits(int s, int plank) {
    return told(s, plank, 6, 1, 2);
  }

  int kinds(int s, int plank) {
    return told(s, plank, 7, 0, 3);
  }

  int feuds(int n) {
    if (!in(n, 1, 20)) {
      return f(0);
    }
    if (w.year + n > 99999) {
      return f(4);
    }
    for (int i = 0; i < n; i++) {
      int first = w.draw(), second = w.draw(), third = w.draw();
      w.mood[first % 6] /= 2;
      w.loud[first % 6] = second % 10;
      if (third % 8 < w.planks.size()) {
        Plank k = w.planks.get(third % 8);
        k.house = k.house == 5 ? 0 : k.house + 1;
      }
      w.year();
    }
    return w.gold;
  }

  long odds(int plank, int v, int n, int what) {
    if (!p(plank) || !in(v, 0, 99) || !in(n, 0, 20) || !in(what, 0, 1)) {
      return f(0);
    }
    int such = 0;
    for (int h = 0; h < 6; h++) {
      such += w.copied().with(plank, 1, h).get(plank, 7) >= v ? 1 : 0;
    }
    BigInteger above = BigInteger.valueOf(such).pow(n);
    BigInteger below = BigInteger.valueOf(6).pow(n);
    return (what == 0 ? above : below).divide(above.gcd(below)).longValueExact();
  }

  int seed(int v) {
    int was = w.z;
    w.z = v;
    return was;
  }

  int feed(int bytes, int n) {
    if (!in(n, 1, 4)) {
      return f(0);
    }
    if (tape.length() + n > 120) {
      return f(1);
    }
    StringBuilder more = new StringBuilder();
    for (int i = 0; i < n; i++) {
      more.insert(0, (char) (bytes & 255));
      bytes >>= 8;
    }
    tape += more;
    return tape.length();
  }

  int wipe() {
    int was = tape.length();
    tape = "";
    return was;
  }

  /** Tokens with their places; the last one is empty, at the end. */
  private List<String> tokens;
  private List<Integer> places;
  private int next;

  private void cut() {
    tokens = new ArrayList<>();
    places = new ArrayList<>();
    java.util.regex.Matcher m =
        java.util.regex.Pattern.compile("[a-z]+|[0-9]+|[^ ]", java.util.regex.Pattern.DOTALL).matcher(tape);
    while (m.find()) {
      tokens.add(m.group());
      places.add(m.start());
    }
    tokens.add("");
    places.add(tape.length());
    next = 0;
  }

  private static final class Fault extends Exception {
    private static final long serialVersionUID = 1L;
  }

  private int number(int a, int b) throws Fault {
    String t = tokens.get(next);
    if (!t.matches("[0-9]+") || new BigInteger(t).compareTo(BigInteger.valueOf(999)) > 0
        || !in(Integer.parseInt(t), a, b)) {
      throw new Fault();
    }
    next++;
    return Integer.parseInt(t);
  }

  private boolean word(String word) {
    if (tokens.get(next).equals(word)) {
      next++;
      return true;
    }
    return false;
  }

  private void item(World t) throws Fault {
    int kind = WORDS.indexOf(tokens.get(next));
    if (kind >= 0 && t.planks.size() < 8) {
      next++;
      Plank k = make(kind);
      k.house = word("in") ? number(0, 5) : 0;
      k.grain = word("grain") ? number(0, 999) : 0;
      k.tone = word("tone") ? number(0, 99) : 0;
      t.planks.add(k);
    } else if (word("house")) {
      int h = number(0, 5);
      t.loud[h] = word("loud") ? number(0, 9) : t.loud[h];
      t.mood[h] = word("mood") ? number(0, 99) : t.mood[h];
    } else if (word("event")) {
      int place = number(0, 5);
      t.list[place] = number(0, 5) * 100;
      t.list[place] += number(0, 99);
    } else if (word("each")) {
      t.each = number(2, 60);
    } else {
      throw new Fault();
    }
  }

  int text() {
    cut();
    World t = w.copied();
    int items = 0;
    try {
      do {
        item(t);
        items++;
      } while (word(";"));
      if (next != tokens.size() - 1) {
        throw new Fault();
      }
      w = t;
      return items;
    } catch (Fault e) {
      return -1 - places.get(next);
    } finally {
      tape = "";
    }
  }

  int hold(int spot, int plank) {
    if (!in(spot, 0, 9) || !(plank == -1 || p(plank))) {
      return f(0);
    }
    w.spots[spot] = plank;
    return 1;
  }

  int as(int spot, int kind) {
    if (!in(spot, 0, 9) || !in(kind, 0, 6)) {
      return f(0);
    }
    if (w.spots[spot] < 0) {
      return f(5);
    }
    return KINDS.get(kind).isInstance(w.planks.get(w.spots[spot])) ? w.spots[spot] : f(2);
  }

  int sheet(int s, int bits, int n) {
    if (!in(s, 0, 3) || !List.of(0, 8, 16, 32).contains(bits)) {
      return f(0);
    }
    if (n < 0) {
      return f(6);
    }
    if (n > 40) {
      return f(0);
    }
    sheets[s] = bits == 0 ? null : new long[n];
    bitsOf[s] = bits;
    return bits == 0 ? 0 : n;
  }

  int write(int s, int i, int v) {
    if (!in(s, 0, 3)) {
      return f(0);
    }
    if (sheets[s] == null) {
      return f(5);
    }
    if (!in(i, 0, sheets[s].length - 1)) {
      return f(0);
    }
    long low = v & ((1L << bitsOf[s]) - 1);
    sheets[s][i] = low >= 1L << (bitsOf[s] - 1) ? low - (1L << bitsOf[s]) : low;
    return 1;
  }

  int copy(int s, int from, int t, int to, int n) {
    if (!in(s, 0, 3) || !in(t, 0, 3)) {
      return f(0);
    }
    if (sheets[s] == null || sheets[t] == null) {
      return f(5);
    }
    if (bitsOf[s] != bitsOf[t]) {
      return f(2);
    }
    if (from < 0 || to < 0 || n < 0 || (long) from + n > sheets[s].length || (long) to + n > sheets[t].length) {
      return f(0);
    }
    long[] were = Arrays.copyOfRange(sheets[s], from, from + n);
    for (int i = 0; i < n; i++) {
      sheets[t][to + i] = were[i];
    }
    return n;
  }

  int load(int s) {
    if (!in(s, 0, 3)) {
      return f(0);
    }
    if (sheets[s] == null) {
      return f(5);
    }
    int came = 0;
    for (long v : sheets[s]) {
      if (v < 0 || v > 99 || came == 6) {
        break;
      }
      w.mood[came++] = (int) v;
    }
    return came;
  }

  int judge(int s) {
    if (!in(s, 0, 3)) {
      return f(0);
    }
    if (sheets[s] == null) {
      return f(5);
    }
    int place = 0;
    for (long v : sheets[s]) {
      if (place >= w.planks.size() || w.planks.get(place).tone != v) {
        return 1 + place;
      }
      place++;
    }
    return 0;
  }

  int image() {
    kept = w.copied();
    return 1;
  }

  int undo() {
    if (kept == null) {
      return f(3);
    }
    w = kept.copied();
    return w.year;
  }

  int tear() {
    int was = kept == null ? 0 : 1;
    kept = null;
    return was;
  }

  int count(int what) {
    if (!in(what, 0, 7)) {
      return f(0);
    }
    return new int[] {w.year, w.planks.size(), w.gold, w.sum(k -> k.grain), w.sum(k -> k.taken),
        tape.length(), w.z, (int) Arrays.stream(w.spots).filter(p -> p >= 0).count()}[what];
  }

  int status(int which) {
    if (!in(which, -1, 6)) {
      return f(0);
    }
    return which < 0 ? Arrays.stream(told).sum() : told[which];
  }
}
