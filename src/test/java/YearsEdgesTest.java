/** The sentences of promises 10 to 16 that name a boundary. */
public final class YearsEdgesTest {
  private static final Due due = new Due();
  private static final Twins some = new Twins(due, Twins::furnished);

  public static void main(String[] args) {
    go();
    lastYear();
    nowOfNone();
    nowOfEight();
    nowOfDearest();
    nowOfMakers();
    ahead();
    aheadAsGo();
    gold();
    rings();
    ringsAtLast();
    taken();
    takenAtLast();
    tuned();
    tunedAtLast();
    onlyTelling();
    due.end();
  }

  private static void go() {
    due.by("n YEARS (1 to 60): GOLD then. BEYOND. STATE: YEAR would be above 99999.");
    ListenWood x = Due.withKinds(0, 1, 2, 3, 4, 5, 6);
    ListenWood y = Due.withKinds(0, 1, 2, 3, 4, 5, 6);
    x.house(0, 0, 8);
    y.house(0, 0, 8);
    int gold = 0;
    for (int i = 0; i < 60; i++) {
      gold = x.go(1);
    }
    due.is("sixty at once", y.go(60), gold);
    due.is("something was taken", gold > 0 ? 1 : 0, 1);
    due.is("gold then", y.now(1), gold);
    due.is("year", y.now(0), 60);
    for (int p = 0; p < 7; p++) {
      for (int what = 0; what < 12; what++) {
        due.is("plank " + p + ", what " + what, y.of(p, what), x.of(p, what));
      }
    }
    due.is("61", x.go(61), Due.BEYOND);
    due.is("0", x.go(0), Due.BEYOND);
    due.is("the year stays", x.now(0), 60);
    due.is("no planks: gold", new ListenWood().go(60), 0);
  }

  /** It takes more than 512 calls, behind which the document leaves all free; but the sentences stand. */
  private static void lastYear() {
    due.by("n YEARS (1 to 60): GOLD then. BEYOND. STATE: YEAR would be above 99999.");
    ListenWood x = new ListenWood();
    for (int i = 0; i < 1666; i++) {
      x.go(60);
    }
    due.is("10: 99960", x.now(0), 99960);
    due.is("10: above 99999", x.go(40), Due.STATE);
    due.is("10: stays", x.now(0), 99960);
    x.go(38);
    x.image();
    due.by("then a YEAR: GOLD then. BEYOND. STATE: YEAR would be above 99999.");
    due.is("24: above 99999", x.feuds(2), Due.STATE);
    due.is("24: up to 99999", x.feuds(1), 0);
    x.undo();
    due.by("YEAR is one more (99999 at most).");
    due.is("10: up to 99999", x.go(1), 0);
    due.is("10: 99999", x.now(0), 99999);
    due.is("10: one more", x.go(1), Due.STATE);
    due.is("24: one more", x.feuds(1), Due.STATE);
    due.is("24: z stays", x.count(6), 1);
    due.is("24: beyond first", x.feuds(0), Due.BEYOND);
    due.is("10: beyond first", x.go(0), Due.BEYOND);
    due.is("41: state", x.status(4), 4);
    x.plank(0, 1);
    due.is("12: the year stays the last", x.ahead(0, 2, 100), 300);
  }

  private static void nowOfNone() {
    due.by("5 the dearest by what it FETCHES (-1: there are none)");
    ListenWood x = new ListenWood();
    int[] wanted = {0, 0, 0, 0, 0, -1, 0, 1};
    for (int what = 0; what < 8; what++) {
      due.is("what " + what, x.now(what), wanted[what]);
    }
    due.is("none is no finding", x.status(-1), 0);
    x.plank(0, 0);
    due.is("one that fetches 0", x.now(5), 0);
    due.is("what -1", x.now(-1), Due.BEYOND);
    due.is("what 8", x.now(8), Due.BEYOND);
  }

  private static void nowOfEight() {
    due.by("2 PLANKS that RING, as a set, 3 GRAIN of all together, 4 CRACKS of all together");
    ListenWood x = Due.withKinds(0, 0, 0, 0, 0, 0, 0, 0);
    int[] most = {0, 0, 999, 0, 9, 0, 9999};
    for (int p = 0; p < 8; p++) {
      for (int what = 2; what < 7; what += 2) {
        x.change(p, what, most[what]);
      }
    }
    due.is("all ring", x.now(2), 255);
    due.is("grain", x.now(3), 8 * 999);
    due.is("cracks", x.now(4), 8 * 9);
    due.is("taken", x.now(6), 8 * 9999);
    due.is("grain, counted", x.count(3), 8 * 999);
    due.is("taken, counted", x.count(4), 8 * 9999);
    x.change(7, 2, 99);
    due.is("the last doesn't", x.now(2), 127);
    x.change(0, 2, 99);
    due.is("nor the first", x.now(2), 126);
  }

  private static void nowOfDearest() {
    due.by("5 the dearest by what it FETCHES (-1: there are none)");
    ListenWood x = Due.withKinds(0, 0, 0, 0, 0, 0, 0, 0);
    due.is("all 0: the least number", x.now(5), 0);
    x.change(7, 3, 1);
    due.is("the last", x.now(5), 7);
    x.change(6, 3, 1);
    due.is("the least of two", x.now(5), 6);
    x.change(6, 4, 1);
    due.is("a crack", x.now(5), 7);
    x.change(0, 3, 2);
    due.is("the first", x.now(5), 0);
  }

  private static void nowOfMakers() {
    due.by("What 0 YEAR, 1 GOLD, 2 PLANKS that RING, as a set, 3 GRAIN of all together, 4 CRACKS of all "
        + "together, 5 the dearest by what it FETCHES (-1: there are none), 6 TAKEN of all together, 7 "
        + "whether makers come in this YEAR (1, 0). BEYOND.");
    ListenWood x = new ListenWood();
    x.each(59);
    due.is("year 0", x.now(7), 1);
    x.go(1);
    due.is("year 1", x.now(7), 0);
    x.go(57);
    due.is("year 58", x.now(7), 0);
    x.go(1);
    due.is("year 59", x.now(7), 1);
    x.each(60);
    due.is("year 59 of 60", x.now(7), 0);
    x.go(1);
    due.is("year 60 of 60", x.now(7), 1);
  }

  private static ListenWood one() {
    ListenWood x = new ListenWood();
    x.plank(0, 1);
    x.each(60);
    return x;
  }

  private static void ahead() {
    due.by("What 2 to 6, 11 (as in of()) of a PLANK behind n (0 to 100) YEARS. BEYOND.");
    ListenWood x = one();
    // Grain 3 a year, a tone of 41 at last; taken in year 60, its 61st, with grain 183.
    int[] what = {2, 3, 4, 5, 6, 11};
    int[][] wanted = {{0, 0, 0, 0, 0, 0}, {3, 5, 0, 1, 0, 5}, {180, 41, 0, 60, 0, 59},
        {0, 0, 0, 0, 1, 0}, {114, 41, 0, 38, 1, 52}, {117, 41, 0, 39, 1, 52}};
    int[] years = {0, 1, 60, 61, 99, 100};
    for (int i = 0; i < years.length; i++) {
      for (int k = 0; k < what.length; k++) {
        due.is("what " + what[k] + " behind " + years[i], x.ahead(0, what[k], years[i]), wanted[i][k]);
      }
    }
    due.is("101", x.ahead(0, 2, 101), Due.BEYOND);
    due.is("-1", x.ahead(0, 2, -1), Due.BEYOND);
    for (int no : new int[] {1, 7, 10, 12}) {
      due.is("what " + no, x.ahead(0, no, 1), Due.BEYOND);
    }
  }

  private static void aheadAsGo() {
    due.by("What 2 to 6, 11 (as in of()) of a PLANK behind n (0 to 100) YEARS.");
    ListenWood x = Due.withKinds(0, 1, 2, 3, 4, 5, 6, 1);
    x.house(0, 0, 8);
    x.each(7);
    for (int i = 0; i < 6; i++) {
      x.event(i, 15 * i);
    }
    x.image();
    for (int n : new int[] {0, 1, 50, 100}) {
      for (int what : new int[] {2, 3, 4, 5, 6, 11}) {
        int last = x.ahead(7, what, n);
        int gold = x.gold(n);
        goFar(x, n);
        due.is("what " + what + " behind " + n, last, x.of(7, what));
        due.is("gold behind " + n, gold, x.now(1));
        x.undo();
      }
    }
  }

  private static void goFar(ListenWood x, int n) {
    for (int left = n; left > 0; left -= 50) {
      x.go(Math.min(50, left));
    }
  }

  private static void gold() {
    due.by("GOLD behind n (0 to 100) YEARS. BEYOND.");
    ListenWood x = one();
    due.is("0", x.gold(0), 0);
    due.is("60", x.gold(60), 0);
    due.is("61", x.gold(61), 18 + 41);
    due.is("100", x.gold(100), 59);
    due.is("101", x.gold(101), Due.BEYOND);
    due.is("-1", x.gold(-1), Due.BEYOND);
    x.each(50);
    // Years 50 and 100: behind 100 years the second hasn't gone by.
    due.is("behind 100, each 50", x.gold(100), 15 + 41);
    x.each(33);
    // Years 33, 66 and 99: the last goes by as the 100th.
    due.is("behind 99, each 33", x.gold(99), 10 + 41);
    due.is("behind 100, each 33", x.gold(100), 10 + 41 + (3 * 66 / 10) + 41);
    x.go(60);
    due.is("0 then", x.gold(0), x.now(1));
  }

  private static void rings() {
    due.by("Behind how many YEARS (0 to 200, the fewest) a PLANK RINGS. BEYOND. NONE.");
    ListenWood x = one();
    due.is("from 0", x.rings(0), 34);
    x.change(0, 2, 97);
    due.is("taken in year 0, so later", x.rings(0), 35);
    x.go(1);
    x.change(0, 2, 97);
    due.is("next year", x.rings(0), 1);
    x.each(30);
    x.change(0, 2, 9);
    due.is("made in year 31", x.rings(0), 31);
    x.change(0, 2, 10);
    due.is("made in year 30, and taken", x.rings(0), 64);
    x.change(0, 2, 100);
    due.is("now", x.rings(0), 0);
    x.change(0, 0, 5);
    due.is("never", x.rings(0), Due.NONE);
    due.is("plank 1", x.rings(1), Due.BEYOND);
    due.is("plank -1", x.rings(-1), Due.BEYOND);
    ListenWood y = Due.withKinds(0, 0, 0, 0, 0, 0, 0, 4);
    y.each(41);
    due.is("the last plank", y.rings(7), 40);
    due.is("there's none behind it", y.rings(8), Due.BEYOND);
  }

  private static void ringsAtLast() {
    due.by("Behind how many YEARS (0 to 200, the fewest) a PLANK RINGS.");
    // Of loud 1: grain 100 behind 100 years, made in year 99; behind 200, made in year 199.
    ListenWood x = one();
    x.house(1, 0, 1);
    due.is("behind 100", x.rings(0), 100);
    x.each(33);
    due.is("behind 200", x.rings(0), 200);
    // From year 1 on it is made in years 100 and 200.
    x.go(1);
    x.change(0, 2, 0);
    x.each(50);
    due.is("taken in 100 and in 200, so never", x.rings(0), Due.NONE);
    x.each(20);
    due.is("taken in 100 and in 200, again", x.rings(0), Due.NONE);
    x.each(40);
    due.is("not taken in 100", x.rings(0), 100);
  }

  private static void taken() {
    due.by("Behind how many YEARS (0 to 200, the fewest) TAKEN of a PLANK is v (0 to 9999) or more. "
        + "BEYOND. NONE.");
    ListenWood x = one();
    due.is("0 now", x.taken(0, 0), 0);
    due.is("1", x.taken(0, 1), 61);
    due.is("2", x.taken(0, 2), 121);
    due.is("3", x.taken(0, 3), 181);
    due.is("4", x.taken(0, 4), Due.NONE);
    due.is("9999", x.taken(0, 9999), Due.NONE);
    x.change(0, 6, 9999);
    due.is("9999 now", x.taken(0, 9999), 0);
    due.is("less than it is", x.taken(0, 0), 0);
    x.change(0, 6, 9998);
    due.is("9999 then", x.taken(0, 9999), 61);
    due.is("9998 now", x.taken(0, 9998), 0);
    due.is("10000", x.taken(0, 10000), Due.BEYOND);
    due.is("-1", x.taken(0, -1), Due.BEYOND);
  }

  private static void takenAtLast() {
    due.by("Behind how many YEARS (0 to 200, the fewest) TAKEN of a PLANK is v (0 to 9999) or more.");
    // From year 1 on, each 50: taken in years 50, 100, 150, 200, the last behind 200 years.
    ListenWood x = new ListenWood();
    x.each(50);
    x.image();
    x.plank(0, 1);
    due.is("year 200, from year 0", x.taken(0, 4), Due.NONE);
    due.is("year 150, from year 0", x.taken(0, 3), 151);
    x.undo();
    x.go(1);
    x.plank(0, 1);
    due.is("year 200, from year 1", x.taken(0, 4), 200);
    due.is("year 250, from year 1", x.taken(0, 5), Due.NONE);
  }

  private static void tuned() {
    due.by("Behind how many YEARS (0 to 200, the fewest) TONE of a PLANK is v (0 to 99) or more. BEYOND. "
        + "NONE.");
    ListenWood x = new ListenWood();
    x.plank(2, 1);
    x.house(1, 1, 99);
    x.each(60);
    due.is("0 now", x.tuned(0, 0), 0);
    due.is("1", x.tuned(0, 1), 1);
    due.is("10", x.tuned(0, 10), 1);
    due.is("11", x.tuned(0, 11), 2);
    // A maple goes on by 1 a year at last: 99 it reaches as well.
    ListenWood y = new ListenWood();
    y.plank(2, 1);
    y.house(1, 1, 99);
    y.each(60);
    int years = 0;
    while (years < 60 && y.of(0, 3) < 99) {
      y.go(1);
      years++;
    }
    due.is("99", x.tuned(0, 99), years);
    x.change(0, 3, 99);
    due.is("99 now", x.tuned(0, 99), 0);
    due.is("100", x.tuned(0, 100), Due.BEYOND);
    due.is("-1", x.tuned(0, -1), Due.BEYOND);
    x.house(1, 1, 98);
    x.change(0, 3, 0);
    due.is("99 isn't reached at mood 98", x.tuned(0, 99), Due.NONE);
    x.change(0, 0, 4);
    due.is("an ebony has 0 at once", x.tuned(0, 0), 0);
    due.is("an ebony has 1 never", x.tuned(0, 1), Due.NONE);
  }

  /**
   * Makers come in years 47, 94, 141, 188 and 235, and a maple begins anew. Its tone goes up and down
   * by the list, so that where it comes to in 47 years is told by where in the list it began; of the
   * five only the last comes to 86, in year 234. (Lists were tried until one did so.)
   */
  private static void tunedAtLast() {
    due.by("Behind how many YEARS (0 to 200, the fewest) TONE of a PLANK is v (0 to 99) or more.");
    ListenWood x = new ListenWood();
    x.go(34);
    int[] events = {150, 76, 150, 150, 150, 86};
    for (int i = 0; i < 6; i++) {
      x.event(i, events[i]);
    }
    x.each(47);
    x.house(0, 0, 7);
    x.house(0, 1, 50);
    x.plank(2, 0);
    x.change(0, 2, 60);
    x.image();
    int reached = 0;
    while (reached < 300 && x.of(0, 3) < 86) {
      x.go(1);
      reached++;
    }
    due.is("by going there", reached, 201);
    x.undo();
    due.is("behind 201", x.tuned(0, 86), Due.NONE);
    due.is("a tone less is sooner", x.tuned(0, 85) < 200 ? 1 : 0, 1);
    x.go(1);
    due.is("behind 200", x.tuned(0, 86), 200);
    x.go(1);
    due.is("behind 199", x.tuned(0, 86), 199);
  }

  private static void onlyTelling() {
    due.by("what will be (nothing changes).");
    for (int what = 0; what < 8; what++) {
      int w = what;
      some.onlyTells("11: what " + what, x -> x.now(w));
    }
    for (int n : new int[] {0, 1, 100}) {
      for (int what : new int[] {2, 3, 4, 5, 6, 11}) {
        some.onlyTells("12: what " + what + " behind " + n, x -> x.ahead(3, what, n));
      }
      some.onlyTells("13: behind " + n, x -> x.gold(n));
    }
    some.onlyTells("14: rings", x -> x.rings(4));
    some.onlyTells("15: taken 0", x -> x.taken(4, 0));
    some.onlyTells("15: taken 5", x -> x.taken(4, 5));
    some.onlyTells("16: tuned 0", x -> x.tuned(4, 0));
    some.onlyTells("16: tuned 20", x -> x.tuned(4, 20));
  }
}
