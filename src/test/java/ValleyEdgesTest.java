/** The sentences of promises 1 to 9 that name a boundary: what is taken last on each side. */
public final class ValleyEdgesTest {
  private static final Due due = new Due();
  private static final Twins some = new Twins(due, Twins::furnished);

  public static void main(String[] args) {
    newObject();
    house();
    houseOf();
    event();
    listed();
    each();
    plank();
    of();
    change();
    onlyTelling();
    due.end();
  }

  private static void newObject() {
    due.by("All as at first; no PLANKS; THE TAPE is empty, no image is kept.");
    ListenWood x = new ListenWood();
    int[] counts = {0, 0, 0, 0, 0, 0, 1, 0};
    int[] nows = {0, 0, 0, 0, 0, -1, 0, 1};
    for (int what = 0; what < 8; what++) {
      due.is("count " + what, x.count(what), counts[what]);
      due.is("now " + what, x.now(what), nows[what]);
    }
    for (int which = -1; which < 7; which++) {
      due.is("status " + which, x.status(which), 0);
    }
    due.is("no tape", x.wipe(), 0);
    due.is("nothing to tear", x.tear(), 0);
    due.is("no plank", x.of(0, 0), Due.BEYOND);
    due.is("nothing kept", x.undo(), Due.NONE);
    due.is("no text", x.text(), -1);
    due.is("each", x.each(60), 30);
  }

  private static void house() {
    due.by("LOUD (what 0), MOOD (1) of a HOUSE becomes v: what it was. BEYOND.");
    ListenWood x = new ListenWood();
    for (int h : new int[] {0, 5}) {
      due.is("loud becomes 0", x.house(h, 0, 0), 3);
      due.is("loud becomes 9", x.house(h, 0, 9), 0);
      due.is("loud stays 9", x.house(h, 0, 9), 9);
      due.is("mood becomes 0", x.house(h, 1, 0), 50);
      due.is("mood becomes 99", x.house(h, 1, 99), 0);
      due.is("mood stays 99", x.house(h, 1, 99), 99);
      due.is("loud", x.houseOf(h, 0), 9);
      due.is("mood", x.houseOf(h, 1), 99);
    }
    for (int h = 1; h < 5; h++) {
      due.is("loud of another", x.houseOf(h, 0), 3);
      due.is("mood of another", x.houseOf(h, 1), 50);
    }
    due.is("no finding", x.status(-1), 0);
  }

  private static void houseOf() {
    due.by("Of a HOUSE: what 0 LOUD, 1 MOOD, 2 PLANKS IN it, as a set. BEYOND.");
    ListenWood x = new ListenWood();
    for (int p = 0; p < 8; p++) {
      x.plank(0, p < 4 ? 0 : 5);
    }
    x.house(0, 0, 8);
    x.house(5, 1, 7);
    int[][] wanted = {{8, 50, 15}, {3, 50, 0}, {3, 50, 0}, {3, 50, 0}, {3, 50, 0}, {3, 7, 240}};
    for (int h = 0; h < 6; h++) {
      for (int what = 0; what < 3; what++) {
        due.is("house " + h + ", what " + what, x.houseOf(h, what), wanted[h][what]);
      }
    }
    due.is("what 3", x.houseOf(0, 3), Due.BEYOND);
  }

  private static void event() {
    due.by("THE LIST tells in place i (0 to 5) an EVENT (0 to 599: 100 * HOUSE and MOOD): which it was. "
        + "BEYOND.");
    ListenWood x = new ListenWood();
    for (int i = 0; i < 6; i++) {
      due.is("0 in " + i, x.event(i, 0), 50);
      due.is("599 in " + i, x.event(i, 599), 0);
      due.is("600 in " + i, x.event(i, 600), Due.BEYOND);
      due.is("-1 in " + i, x.event(i, -1), Due.BEYOND);
      due.is("it was 599 in " + i, x.event(i, 99), 599);
    }
    due.is("place 6", x.event(6, 50), Due.BEYOND);
    due.is("place -1", x.event(-1, 50), Due.BEYOND);
  }

  private static void listed() {
    due.by("The EVENT in a place of THE LIST. BEYOND.");
    ListenWood x = new ListenWood();
    x.event(0, 0);
    x.event(5, 599);
    int[] wanted = {0, 50, 50, 50, 50, 599};
    for (int i = 0; i < 6; i++) {
      due.is("place " + i, x.listed(i), wanted[i]);
    }
    due.is("place 6", x.listed(6), Due.BEYOND);
    due.is("place -1", x.listed(-1), Due.BEYOND);
    x.go(60);
    due.is("years leave it", x.listed(0), 0);
  }

  private static void each() {
    due.by("EACH becomes v (2 to 60): what it was. BEYOND.");
    ListenWood x = new ListenWood();
    int was = 30;
    for (int v = 2; v <= 60; v++) {
      due.is("each " + v, x.each(v), was);
      was = v;
    }
    due.is("61", x.each(61), Due.BEYOND);
    due.is("1", x.each(1), Due.BEYOND);
    due.is("still", x.each(2), 60);
  }

  private static void plank() {
    due.by("A new PLANK IN a HOUSE: its number. BEYOND. FULL.");
    for (int kind = 0; kind < 7; kind += 6) {
      for (int house = 0; house < 6; house += 5) {
        ListenWood x = new ListenWood();
        for (int p = 0; p < 8; p++) {
          due.is("its number", x.plank(kind, house), p);
          due.is("its kind", x.of(p, 0), kind);
          due.is("its house", x.of(p, 1), house);
        }
        due.is("a ninth", x.plank(kind, house), Due.FULL);
        due.is("eight", x.count(1), 8);
      }
    }
    ListenWood y = new ListenWood();
    y.image();
    for (int p = 0; p < 8; p++) {
      y.plank(0, 0);
    }
    y.undo();
    due.is("empty again, so not full", y.plank(6, 5), 0);
  }

  private static void of() {
    due.by("Of a PLANK: what 0 KIND, 1 HOUSE, 2 GRAIN, 3 TONE, 4 CRACKS, 5 AGE, 6 TAKEN, 7 HEARS, 8 "
        + "FOLLOWS, 9 RINGS (1, 0), 10 SPLITS, 11 FETCHES. BEYOND.");
    ListenWood x = new ListenWood();
    for (int p = 0; p < 8; p++) {
      x.plank(1, 5);
    }
    x.house(5, 0, 9);
    int[] numbers = {6, 5, 100, 20, 2, 9999, 7};
    for (int what = 2; what < 7; what++) {
      x.change(7, what, numbers[what]);
    }
    x.change(7, 0, 6);
    int[] wanted = {6, 5, 100, 20, 2, 9999, 7, 17, 6, 1, 1, 40};
    int[] first = {1, 5, 0, 0, 0, 0, 0, 18, 10, 0, 1, 0};
    for (int what = 0; what < 12; what++) {
      due.is("plank 7, what " + what, x.of(7, what), wanted[what]);
      due.is("plank 0, what " + what, x.of(0, what), first[what]);
    }
    x.change(7, 4, 3);
    due.is("it doesn't ring now", x.of(7, 9), 0);
  }

  private static void change() {
    due.by("KIND (what 0), HOUSE (1), GRAIN (2), TONE (3), CRACKS (4), AGE (5), TAKEN (6) of a PLANK "
        + "becomes v: what it was. BEYOND.");
    int[] most = {6, 5, 999, 99, 9, 9999, 9999};
    ListenWood x = Due.withKinds(0, 0, 0, 0, 0, 0, 0, 0);
    for (int p = 0; p < 8; p += 7) {
      for (int what = 0; what < 7; what++) {
        due.is("the most of " + what, x.change(p, what, most[what]), 0);
        due.is("one less of " + what, x.change(p, what, most[what] - 1), most[what]);
        due.is("one more than most of " + what, x.change(p, what, most[what] + 1), Due.BEYOND);
        due.is("one less than least of " + what, x.change(p, what, -1), Due.BEYOND);
        due.is("the least of " + what, x.change(p, what, 0), most[what] - 1);
        due.is("and it is, of " + what, x.of(p, what), 0);
      }
    }
    due.is("plank 8", x.change(8, 0, 0), Due.BEYOND);
    due.is("plank -1", x.change(-1, 0, 0), Due.BEYOND);
  }

  private static void onlyTelling() {
    due.by("Nothing is promised beyond the answers and state changes described above");
    for (int i = 0; i < 6; i++) {
      int n = i;
      some.onlyTells("3: loud of " + i, x -> x.houseOf(n, 0));
      some.onlyTells("3: mood of " + i, x -> x.houseOf(n, 1));
      some.onlyTells("3: planks of " + i, x -> x.houseOf(n, 2));
      some.onlyTells("5: place " + i, x -> x.listed(n));
    }
    for (int what = 0; what < 12; what++) {
      int w = what;
      some.onlyTells("8: what " + what + " of 0", x -> x.of(0, w));
      some.onlyTells("8: what " + what + " of 4", x -> x.of(4, w));
    }
  }
}
