/**
 * Each refused call, with its finding and with what it leaves as it was: "Each act tells its findings
 * in the order in which they are asked; one that answers a finding changes nothing but status()."
 * Beside the first values that are refused on each side stand the farthest that an int can hold.
 */
public final class RefusedTest {
  private static final int LEAST = Integer.MIN_VALUE;
  private static final int MOST = Integer.MAX_VALUE;

  private static final Due due = new Due();
  private static final Twins some = new Twins(due, Twins::furnished);
  private static final Twins full = new Twins(due, RefusedTest::full);
  private static final Twins fresh = new Twins(due, ListenWood::new);

  public static void main(String[] args) {
    due.by("Each act tells its findings in the order in which they are asked (that of its words); one that "
        + "answers a finding changes nothing but status().");
    houses();
    list();
    planks();
    changes();
    years();
    ahead();
    searches();
    billets();
    loudFor();
    moveAll();
    told();
    feuds();
    odds();
    tape();
    spots();
    sheet();
    write();
    copy();
    loadAndJudge();
    images();
    due.end();
  }

  /** Eight planks, and a tape of 120 bytes. */
  private static ListenWood full() {
    ListenWood x = Due.withKinds(0, 1, 2, 3, 4, 5, 6, 0);
    for (int i = 0; i < 30; i++) {
      x.feed(0x6669723b, 4);
    }
    return x;
  }

  /** Year 99990. It takes more than 512 calls, behind which the document leaves all free. */
  private static ListenWood late() {
    ListenWood x = Due.withKinds(0, 5);
    for (int i = 0; i < 1666; i++) {
      x.go(60);
    }
    x.go(30);
    return x;
  }

  private static void houses() {
    for (int house : new int[] {-1, 6, LEAST, MOST}) {
      some.refused("2: house " + house, Due.BEYOND, x -> x.house(house, 0, 1));
      some.refused("2: house " + house + ", mood", Due.BEYOND, x -> x.house(house, 1, 1));
      some.refused("3: house " + house, Due.BEYOND, x -> x.houseOf(house, 0));
      some.refused("3: house " + house + ", planks", Due.BEYOND, x -> x.houseOf(house, 2));
    }
    for (int what : new int[] {-1, 2, LEAST, MOST}) {
      some.refused("2: what " + what, Due.BEYOND, x -> x.house(0, what, 1));
    }
    for (int what : new int[] {-1, 3, LEAST, MOST}) {
      some.refused("3: what " + what, Due.BEYOND, x -> x.houseOf(0, what));
    }
    for (int v : new int[] {-1, 10, 99, LEAST, MOST}) {
      some.refused("2: loud " + v, Due.BEYOND, x -> x.house(5, 0, v));
    }
    for (int v : new int[] {-1, 100, LEAST, MOST}) {
      some.refused("2: mood " + v, Due.BEYOND, x -> x.house(5, 1, v));
    }
  }

  private static void list() {
    for (int i : new int[] {-1, 6, LEAST, MOST}) {
      some.refused("4: place " + i, Due.BEYOND, x -> x.event(i, 0));
      some.refused("5: place " + i, Due.BEYOND, x -> x.listed(i));
    }
    for (int v : new int[] {-1, 600, LEAST, MOST}) {
      some.refused("4: event " + v, Due.BEYOND, x -> x.event(0, v));
      some.refused("4: event " + v + " in place 5", Due.BEYOND, x -> x.event(5, v));
    }
    for (int v : new int[] {1, 61, 0, -2, -30, LEAST, MOST}) {
      some.refused("6: each " + v, Due.BEYOND, x -> x.each(v));
    }
  }

  private static void planks() {
    for (int kind : new int[] {-1, 7, LEAST, MOST}) {
      some.refused("7: kind " + kind, Due.BEYOND, x -> x.plank(kind, 0));
      full.refused("7: kind " + kind + " ahead of a ninth", Due.BEYOND, x -> x.plank(kind, 0));
    }
    for (int house : new int[] {-1, 6, LEAST, MOST}) {
      some.refused("7: in house " + house, Due.BEYOND, x -> x.plank(0, house));
      full.refused("7: in house " + house + " ahead of a ninth", Due.BEYOND, x -> x.plank(0, house));
    }
    full.refused("7: a ninth", Due.FULL, x -> x.plank(0, 0));
    full.refused("7: a ninth, the last kind and house", Due.FULL, x -> x.plank(6, 5));
    for (int what = 0; what < 12; what++) {
      int w = what;
      fresh.refused("8: no plank, what " + what, Due.BEYOND, x -> x.of(0, w));
      some.refused("8: plank -1, what " + what, Due.BEYOND, x -> x.of(-1, w));
      some.refused("8: plank 5, what " + what, Due.BEYOND, x -> x.of(5, w));
    }
    full.refused("8: plank 8", Due.BEYOND, x -> x.of(8, 0));
    some.refused("8: the least plank", Due.BEYOND, x -> x.of(LEAST, 0));
    some.refused("8: the most plank", Due.BEYOND, x -> x.of(MOST, 0));
    for (int what : new int[] {-1, 12, LEAST, MOST}) {
      some.refused("8: what " + what, Due.BEYOND, x -> x.of(0, what));
    }
  }

  private static void changes() {
    int[] most = {6, 5, 999, 99, 9, 9999, 9999};
    for (int what = 0; what < 7; what++) {
      int w = what;
      for (int v : new int[] {-1, most[what] + 1, LEAST, MOST}) {
        some.refused("9: what " + what + " becomes " + v, Due.BEYOND, x -> x.change(4, w, v));
      }
      fresh.refused("9: no plank, what " + what, Due.BEYOND, x -> x.change(0, w, 0));
      for (int plank : new int[] {-1, 5, LEAST, MOST}) {
        some.refused("9: plank " + plank + ", what " + what, Due.BEYOND, x -> x.change(plank, w, 0));
      }
    }
    full.refused("9: plank 8", Due.BEYOND, x -> x.change(8, 2, 0));
    for (int what : new int[] {-1, 7, LEAST, MOST}) {
      some.refused("9: what " + what, Due.BEYOND, x -> x.change(0, what, 0));
    }
  }

  private static void years() {
    for (int n : new int[] {0, 61, -1, LEAST, MOST}) {
      some.refused("10: years " + n, Due.BEYOND, x -> x.go(n));
      fresh.refused("10: years of none " + n, Due.BEYOND, x -> x.go(n));
    }
    Twins late = new Twins(due, RefusedTest::late);
    late.refused("10: a year too far", Due.STATE, x -> x.go(10));
    late.refused("10: sixty years, too far", Due.STATE, x -> x.go(60));
    late.refused("10: too many ahead of too far", Due.BEYOND, x -> x.go(61));
    late.refused("24: a year too far", Due.STATE, x -> x.feuds(10));
    late.refused("24: twenty, too far", Due.STATE, x -> x.feuds(20));
    late.refused("24: too many ahead of too far", Due.BEYOND, x -> x.feuds(21));
    for (int what : new int[] {-1, 8, LEAST, MOST}) {
      some.refused("11: what " + what, Due.BEYOND, x -> x.now(what));
    }
  }

  private static void ahead() {
    fresh.refused("12: no plank", Due.BEYOND, x -> x.ahead(0, 2, 1));
    for (int plank : new int[] {-1, 5, LEAST, MOST}) {
      some.refused("12: plank " + plank, Due.BEYOND, x -> x.ahead(plank, 2, 1));
    }
    for (int what : new int[] {-1, 0, 1, 7, 8, 9, 10, 12, LEAST, MOST}) {
      some.refused("12: what " + what, Due.BEYOND, x -> x.ahead(0, what, 1));
    }
    for (int n : new int[] {-1, 101, LEAST, MOST}) {
      some.refused("12: years " + n, Due.BEYOND, x -> x.ahead(0, 2, n));
      some.refused("13: years " + n, Due.BEYOND, x -> x.gold(n));
    }
  }

  private static void searches() {
    fresh.refused("14: no plank", Due.BEYOND, x -> x.rings(0));
    fresh.refused("15: no plank", Due.BEYOND, x -> x.taken(0, 0));
    fresh.refused("16: no plank", Due.BEYOND, x -> x.tuned(0, 0));
    for (int plank : new int[] {-1, 5, LEAST, MOST}) {
      some.refused("14: plank " + plank, Due.BEYOND, x -> x.rings(plank));
      some.refused("15: plank " + plank, Due.BEYOND, x -> x.taken(plank, 0));
      some.refused("16: plank " + plank, Due.BEYOND, x -> x.tuned(plank, 0));
    }
    for (int v : new int[] {-1, 10000, LEAST, MOST}) {
      some.refused("15: taken " + v, Due.BEYOND, x -> x.taken(0, v));
    }
    for (int v : new int[] {-1, 100, LEAST, MOST}) {
      some.refused("16: tone " + v, Due.BEYOND, x -> x.tuned(0, v));
    }
    // Plank 0 is a deal: it never rings, so nobody takes it; and no mood is above 66 for long.
    some.refused("14: never", Due.NONE, x -> x.rings(0));
    some.refused("15: never", Due.NONE, x -> x.taken(0, 9999));
    some.refused("16: never", Due.NONE, x -> x.tuned(0, 99));
  }

  private static void billets() {
    fresh.refused("17: no plank", Due.BEYOND, x -> x.billet(0, 0));
    fresh.refused("18: no plank", Due.BEYOND, x -> x.kindFor(0, 0));
    for (int plank : new int[] {-1, 5, LEAST, MOST}) {
      some.refused("17: plank " + plank, Due.BEYOND, x -> x.billet(plank, 1));
      some.refused("18: plank " + plank, Due.BEYOND, x -> x.kindFor(plank, 1));
    }
    for (int n : new int[] {-1, 61, LEAST, MOST}) {
      some.refused("17: years " + n, Due.BEYOND, x -> x.billet(0, n));
      some.refused("18: years " + n, Due.BEYOND, x -> x.kindFor(0, n));
      some.refused("20: years " + n, Due.BEYOND, x -> x.eachFor(n));
    }
  }

  private static void loudFor() {
    fresh.refused("19: no plank", Due.BEYOND, x -> x.loudFor(0, 0, 0));
    for (int house : new int[] {-1, 6, LEAST, MOST}) {
      some.refused("19: house " + house, Due.BEYOND, x -> x.loudFor(house, 0, 1));
    }
    for (int plank : new int[] {-1, 5, LEAST, MOST}) {
      some.refused("19: plank " + plank, Due.BEYOND, x -> x.loudFor(0, plank, 1));
    }
    for (int n : new int[] {-1, 61, LEAST, MOST}) {
      some.refused("19: years " + n, Due.BEYOND, x -> x.loudFor(0, 0, n));
    }
    some.refused("19: a deal", Due.NONE, x -> x.loudFor(5, 0, 60));
  }

  private static void moveAll() {
    for (int house : new int[] {-1, 6, LEAST, MOST}) {
      some.refused("21: house " + house, Due.BEYOND, x -> x.moveAll(house, 1));
      fresh.refused("21: house of none " + house, Due.BEYOND, x -> x.moveAll(house, 1));
    }
    for (int n : new int[] {-1, 21, LEAST, MOST}) {
      some.refused("21: years " + n, Due.BEYOND, x -> x.moveAll(0, n));
    }
    some.refused("21: a deal among them", Due.NONE, x -> x.moveAll(0, 20));
  }

  private static void told() {
    for (int s : new int[] {-1, 4, LEAST, MOST}) {
      some.refused("22: sheet " + s, Due.BEYOND, x -> x.fits(s, 0));
      some.refused("23: sheet " + s, Due.BEYOND, x -> x.kinds(s, 0));
    }
    some.refused("22: missing", Due.MISSING, x -> x.fits(3, 0));
    some.refused("23: missing", Due.MISSING, x -> x.kinds(3, 0));
    for (int plank : new int[] {-1, 5, LEAST, MOST}) {
      some.refused("22: missing ahead of plank " + plank, Due.MISSING, x -> x.fits(3, plank));
      some.refused("23: missing ahead of plank " + plank, Due.MISSING, x -> x.kinds(3, plank));
      some.refused("22: plank " + plank, Due.BEYOND, x -> x.fits(0, plank));
      some.refused("23: plank " + plank, Due.BEYOND, x -> x.kinds(0, plank));
    }
    fresh.refused("22: sheet 3 of a new one", Due.MISSING, x -> x.fits(3, 0));
    fresh.refused("23: sheet 0 of a new one", Due.MISSING, x -> x.kinds(0, 0));
  }

  private static void feuds() {
    for (int n : new int[] {0, 21, -1, LEAST, MOST}) {
      some.refused("24: feuds " + n, Due.BEYOND, x -> x.feuds(n));
    }
  }

  private static void odds() {
    fresh.refused("25: no plank", Due.BEYOND, x -> x.odds(0, 0, 0, 0));
    for (int plank : new int[] {-1, 5, LEAST, MOST}) {
      some.refused("25: plank " + plank, Due.BEYOND, x -> x.odds(plank, 1, 1, 0));
    }
    for (int v : new int[] {-1, 100, LEAST, MOST}) {
      some.refused("25: hears " + v, Due.BEYOND, x -> x.odds(0, v, 1, 0));
    }
    for (int n : new int[] {-1, 21, LEAST, MOST}) {
      some.refused("25: houses " + n, Due.BEYOND, x -> x.odds(0, 1, n, 1));
    }
    for (int what : new int[] {-1, 2, LEAST, MOST}) {
      some.refused("25: what " + what, Due.BEYOND, x -> x.odds(0, 1, 1, what));
    }
  }

  private static void tape() {
    for (int n : new int[] {0, 5, -1, LEAST, MOST}) {
      some.refused("27: bytes " + n, Due.BEYOND, x -> x.feed(0x20202020, n));
      full.refused("27: bytes " + n + " ahead of too many", Due.BEYOND, x -> x.feed(0x20202020, n));
    }
    for (int n = 1; n <= 4; n++) {
      int bytes = n;
      full.refused("27: too many by " + n, Due.FULL, x -> x.feed(0x20202020, bytes));
      Twins nearly = new Twins(due, () -> taped(121 - bytes));
      nearly.refused("27: too many by 1 of " + n, Due.FULL, x -> x.feed(0x20202020, bytes));
    }
  }

  private static ListenWood taped(int bytes) {
    ListenWood x = new ListenWood();
    for (int i = 0; i < bytes; i++) {
      x.feed(i % 4 == 3 ? ';' : "fir".charAt(i % 4), 1);
    }
    return x;
  }

  private static void spots() {
    for (int spot : new int[] {-1, 10, LEAST, MOST}) {
      some.refused("30: spot " + spot, Due.BEYOND, x -> x.hold(spot, 0));
      some.refused("30: nothing in spot " + spot, Due.BEYOND, x -> x.hold(spot, -1));
      some.refused("31: spot " + spot, Due.BEYOND, x -> x.as(spot, 0));
    }
    for (int plank : new int[] {-2, 5, LEAST, MOST}) {
      some.refused("30: plank " + plank, Due.BEYOND, x -> x.hold(9, plank));
    }
    fresh.refused("30: no plank", Due.BEYOND, x -> x.hold(0, 0));
    full.refused("30: plank 8", Due.BEYOND, x -> x.hold(0, 8));
    for (int kind : new int[] {-1, 7, LEAST, MOST}) {
      some.refused("31: kind " + kind, Due.BEYOND, x -> x.as(0, kind));
      some.refused("31: kind " + kind + " of nothing", Due.BEYOND, x -> x.as(1, kind));
    }
    some.refused("31: nothing", Due.MISSING, x -> x.as(1, 0));
    some.refused("31: nothing as the last", Due.MISSING, x -> x.as(8, 6));
    // Spot 0 holds a fir: it is none of these, nor is any of these above it.
    for (int kind : new int[] {2, 3, 4, 5}) {
      some.refused("31: a fir as " + kind, Due.KIND, x -> x.as(0, kind));
    }
    for (int kind = 1; kind < 7; kind++) {
      int k = kind;
      some.refused("31: a plank as " + kind, Due.KIND, x -> x.as(9, k));
    }
  }

  private static void sheet() {
    for (int s : new int[] {-1, 4, LEAST, MOST}) {
      some.refused("32: sheet " + s, Due.BEYOND, x -> x.sheet(s, 8, 1));
      some.refused("32: sheet " + s + " ahead of its size", Due.BEYOND, x -> x.sheet(s, 8, -1));
      some.refused("32: sheet " + s + " goes", Due.BEYOND, x -> x.sheet(s, 0, 0));
    }
    for (int bits : new int[] {-1, 1, 7, 9, 15, 17, 31, 33, 24, 64, -8, LEAST, MOST}) {
      some.refused("32: bits " + bits, Due.BEYOND, x -> x.sheet(0, bits, 1));
      some.refused("32: bits " + bits + " ahead of its size", Due.BEYOND, x -> x.sheet(0, bits, -1));
    }
    for (int bits : new int[] {0, 8, 16, 32}) {
      some.refused("32: -1 of " + bits, Due.SIZE, x -> x.sheet(0, bits, -1));
      some.refused("32: the least of " + bits, Due.SIZE, x -> x.sheet(0, bits, LEAST));
      some.refused("32: 41 of " + bits, Due.BEYOND, x -> x.sheet(0, bits, 41));
      some.refused("32: the most of " + bits, Due.BEYOND, x -> x.sheet(0, bits, MOST));
    }
    some.refused("32: -1 of one that is missing", Due.SIZE, x -> x.sheet(3, 8, -1));
    some.refused("32: 41 of one that is missing", Due.BEYOND, x -> x.sheet(3, 8, 41));
  }

  private static void write() {
    for (int s : new int[] {-1, 4, LEAST, MOST}) {
      some.refused("33: sheet " + s, Due.BEYOND, x -> x.write(s, 0, 1));
    }
    for (int i : new int[] {0, -1, 40, LEAST, MOST}) {
      some.refused("33: missing ahead of number " + i, Due.MISSING, x -> x.write(3, i, 1));
      some.refused("33: number " + (i == 0 ? 6 : i), Due.BEYOND, x -> x.write(0, i == 0 ? 6 : i, 1));
    }
    some.refused("33: number 12 of 12", Due.BEYOND, x -> x.write(1, 12, 1));
    some.refused("33: number 2 of 2", Due.BEYOND, x -> x.write(2, 2, 1));
    Twins empty = new Twins(due, () -> sheeted(8, 0));
    empty.refused("33: number 0 of none", Due.BEYOND, x -> x.write(0, 0, 1));
    Twins long40 = new Twins(due, () -> sheeted(16, 40));
    long40.refused("33: number 40 of 40", Due.BEYOND, x -> x.write(0, 40, 1));
  }

  private static ListenWood sheeted(int bits, int n) {
    ListenWood x = new ListenWood();
    x.sheet(0, bits, n);
    return x;
  }

  private static void copy() {
    for (int s : new int[] {-1, 4, LEAST, MOST}) {
      some.refused("34: from sheet " + s, Due.BEYOND, x -> x.copy(s, 0, 0, 0, 1));
      some.refused("34: to sheet " + s, Due.BEYOND, x -> x.copy(0, 0, s, 0, 1));
      some.refused("34: from sheet " + s + " to one missing", Due.BEYOND, x -> x.copy(s, 0, 3, 0, 1));
      some.refused("34: from one missing to sheet " + s, Due.BEYOND, x -> x.copy(3, 0, s, 0, 1));
    }
    some.refused("34: from one missing", Due.MISSING, x -> x.copy(3, 0, 0, 0, 1));
    some.refused("34: to one missing", Due.MISSING, x -> x.copy(0, 0, 3, 0, 1));
    some.refused("34: both missing", Due.MISSING, x -> x.copy(3, 0, 3, 0, 0));
    some.refused("34: missing ahead of n", Due.MISSING, x -> x.copy(0, -1, 3, 50, -1));
    some.refused("34: 8 and 16", Due.KIND, x -> x.copy(0, 0, 1, 0, 1));
    some.refused("34: 16 and 8", Due.KIND, x -> x.copy(1, 0, 0, 0, 1));
    some.refused("34: 16 and 32", Due.KIND, x -> x.copy(1, 0, 2, 0, 1));
    some.refused("34: other bits, none", Due.KIND, x -> x.copy(0, 0, 2, 0, 0));
    some.refused("34: other bits ahead of n", Due.KIND, x -> x.copy(0, -1, 1, 50, -1));
    copyBounds();
  }

  /** Within sheet 1, which has 12 numbers. */
  private static void copyBounds() {
    some.refused("34: from -1", Due.BEYOND, x -> x.copy(1, -1, 1, 3, 2));
    some.refused("34: to -1", Due.BEYOND, x -> x.copy(1, 3, 1, -1, 2));
    some.refused("34: n -1", Due.BEYOND, x -> x.copy(1, 3, 1, 0, -1));
    some.refused("34: from the least", Due.BEYOND, x -> x.copy(1, LEAST, 1, 0, 1));
    some.refused("34: to the least", Due.BEYOND, x -> x.copy(1, 0, 1, LEAST, 1));
    some.refused("34: n the least", Due.BEYOND, x -> x.copy(1, 0, 1, 3, LEAST));
    some.refused("34: 13 of 12", Due.BEYOND, x -> x.copy(1, 0, 1, 0, 13));
    some.refused("34: from has one too few", Due.BEYOND, x -> x.copy(1, 10, 1, 0, 3));
    some.refused("34: to has one too few", Due.BEYOND, x -> x.copy(1, 0, 1, 10, 3));
    some.refused("34: from behind the last", Due.BEYOND, x -> x.copy(1, 12, 1, 0, 1));
    some.refused("34: to behind the last", Due.BEYOND, x -> x.copy(1, 0, 1, 12, 1));
    some.refused("34: none from farther behind", Due.BEYOND, x -> x.copy(1, 13, 1, 0, 0));
    some.refused("34: none to farther behind", Due.BEYOND, x -> x.copy(1, 0, 1, 13, 0));
    some.refused("34: from the most", Due.BEYOND, x -> x.copy(1, MOST, 1, 0, 1));
    some.refused("34: to the most", Due.BEYOND, x -> x.copy(1, 0, 1, MOST, 1));
    some.refused("34: n the most", Due.BEYOND, x -> x.copy(1, 1, 1, 1, MOST));
    some.refused("34: all the most", Due.BEYOND, x -> x.copy(1, MOST, 1, MOST, MOST));
  }

  private static void loadAndJudge() {
    for (int s : new int[] {-1, 4, LEAST, MOST}) {
      some.refused("35: sheet " + s, Due.BEYOND, x -> x.load(s));
      some.refused("36: sheet " + s, Due.BEYOND, x -> x.judge(s));
    }
    some.refused("35: missing", Due.MISSING, x -> x.load(3));
    some.refused("36: missing", Due.MISSING, x -> x.judge(3));
  }

  private static void images() {
    fresh.refused("38: nothing was ever kept", Due.NONE, x -> x.undo());
    Twins torn = new Twins(due, () -> {
      ListenWood x = Twins.furnished();
      x.tear();
      return x;
    });
    torn.refused("38: it was torn", Due.NONE, x -> x.undo());
    for (int what : new int[] {-1, 8, LEAST, MOST}) {
      some.refused("40: what " + what, Due.BEYOND, x -> x.count(what));
    }
    for (int which : new int[] {-2, 7, LEAST, MOST}) {
      some.refused("41: which " + which, Due.BEYOND, x -> x.status(which));
    }
  }
}
