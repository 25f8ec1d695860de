/** Promises 24 to 26: feuds by draws, odds, the seed. */
public final class FeudsTest {
  private static final Due due = new Due();

  public static void main(String[] args) {
    feuds();
    feudsOneByOne();
    odds();
    oddsOfPear();
    seed();
    due.end();
  }

  private static int next(int z) {
    return z * 1103515245 + 12345;
  }

  private static void feuds() {
    ListenWood x = new ListenWood();
    due.is("24: 0", x.feuds(0), Due.BEYOND);
    due.is("24: 21", x.feuds(21), Due.BEYOND);
    due.is("24: z stays", x.count(6), 1);
    // From z = 1: 1103527590, 2524885223, 662824084; without their lowest 8 bits these
    // are 4310654 (house 2), 9862832 (loud 2), 2589156 (plank 4).
    x.house(2, 1, 51);
    for (int p = 0; p < 5; p++) {
      x.plank(4, 5);
    }
    due.is("24: gold", x.feuds(1), 0);
    due.is("24: z", x.count(6), next(next(next(1))));
    due.is("24: year", x.now(0), 1);
    due.is("24: mood of it is half, cut", x.houseOf(2, 1), 25);
    due.is("24: loud of it", x.houseOf(2, 0), 2);
    due.is("24: behind house 5 comes 0", x.houseOf(0, 2), 16);
    due.is("24: the others stay", x.houseOf(5, 2), 15);
    due.is("24: twenty", x.feuds(20), 0);
    due.is("24: year then", x.now(0), 21);
  }

  /** Each feud told by the draws that it makes, on the other calls alone. */
  private static void feudsOneByOne() {
    ListenWood x = new ListenWood();
    ListenWood y = new ListenWood();
    for (int p = 0; p < 6; p++) {
      x.plank(p, p);
      y.plank(p, p);
    }
    x.each(4);
    y.each(4);
    x.seed(-77);
    int z = -77;
    for (int i = 0; i < 100; i++) {
      z = next(z);
      int h = (z >>> 8) % 6;
      y.house(h, 1, y.houseOf(h, 1) / 2);
      z = next(z);
      y.house(h, 0, (z >>> 8) % 10);
      z = next(z);
      int p = (z >>> 8) % 8;
      if (p < 6) {
        y.change(p, 1, (y.of(p, 1) + 1) % 6);
      }
      due.is("24: gold as told", x.feuds(1), y.go(1));
      due.is("24: z as told", x.count(6), z);
      if (i % 10 == 9) {
        same(x, y);
        z = x.seed(z);
      }
      if (i == 50) {
        // Many at once are as many one by one.
        ListenWood v = copyOf(x);
        ListenWood w = copyOf(x);
        for (int k = 0; k < 7; k++) {
          v.feuds(1);
        }
        w.feuds(7);
        same(v, w);
      }
    }
    due.is("24: something was taken", x.now(6) > 0 ? 1 : 0, 1);
  }

  private static ListenWood copyOf(ListenWood x) {
    ListenWood y = new ListenWood();
    y.seed(x.count(6));
    for (int h = 0; h < 6; h++) {
      y.house(h, 0, x.houseOf(h, 0));
      y.house(h, 1, x.houseOf(h, 1));
    }
    for (int p = 0; p < x.count(1); p++) {
      y.plank(x.of(p, 0), x.of(p, 1));
      for (int what = 2; what < 7; what++) {
        y.change(p, what, x.of(p, what));
      }
    }
    return y;
  }

  private static void same(ListenWood x, ListenWood y) {
    for (int h = 0; h < 6; h++) {
      for (int what = 0; what < 3; what++) {
        due.is("24: houses as told", x.houseOf(h, what), y.houseOf(h, what));
      }
    }
    for (int p = 0; p < 6; p++) {
      for (int what = 0; what < 7; what++) {
        due.is("24: planks as told", x.of(p, what), y.of(p, what));
      }
    }
  }

  private static void odds() {
    ListenWood x = new ListenWood();
    due.is("25: no plank", x.odds(0, 0, 0, 0), Due.BEYOND);
    x.plank(0, 1);
    due.is("25: plank 1", x.odds(1, 0, 0, 0), Due.BEYOND);
    due.is("25: v -1", x.odds(0, -1, 0, 0), Due.BEYOND);
    due.is("25: v 100", x.odds(0, 100, 0, 0), Due.BEYOND);
    due.is("25: n -1", x.odds(0, 0, -1, 0), Due.BEYOND);
    due.is("25: n 21", x.odds(0, 0, 21, 0), Due.BEYOND);
    due.is("25: what -1", x.odds(0, 0, 0, -1), Due.BEYOND);
    due.is("25: what 2", x.odds(0, 0, 0, 2), Due.BEYOND);
    fraction(x, 0, 1, 1, 1);
    fraction(x, 3, 20, 1, 1);
    fraction(x, 4, 1, 0, 1);
    fraction(x, 4, 0, 1, 1);
    fraction(x, 99, 20, 0, 1);
    x.house(2, 0, 7);
    fraction(x, 4, 1, 1, 6);
    fraction(x, 7, 20, 1, 3656158440062976L);
    x.house(3, 0, 8);
    fraction(x, 4, 3, 1, 27);
    x.house(5, 0, 9);
    fraction(x, 4, 5, 1, 32);
    x.house(0, 0, 9);
    fraction(x, 7, 2, 4, 9);
    x.house(1, 0, 9);
    fraction(x, 7, 20, 95367431640625L, 3656158440062976L);
    due.is("25: nothing changed", x.of(0, 1), 1);
    due.is("25: no draw", x.count(6), 1);
  }

  private static void fraction(ListenWood x, int v, int n, long above, long below) {
    due.is("25: above, v " + v + ", n " + n, x.odds(0, v, n, 0), above);
    due.is("25: below, v " + v + ", n " + n, x.odds(0, v, n, 1), below);
  }

  private static void oddsOfPear() {
    ListenWood x = new ListenWood();
    x.plank(3, 1);
    x.plank(0, 1);
    x.plank(0, 2);
    x.plank(0, 2);
    // It hears 3 and those beside it: 4 in house 1, 5 in house 2, 3 elsewhere.
    fraction(x, 5, 1, 1, 6);
    fraction(x, 4, 1, 1, 3);
    fraction(x, 3, 1, 1, 1);
  }

  private static void seed() {
    ListenWood x = new ListenWood();
    due.is("26: first", x.seed(-1000001), 1);
    due.is("26: again", x.seed(Integer.MAX_VALUE), -1000001);
    due.is("26: told", x.count(6), Integer.MAX_VALUE);
    x.seed(-1000003);
    due.is("26: told as it is", x.count(6), -1000003);
    due.is("26: no finding", x.status(-1), 0);
  }
}
