/** The sentences of promises 17 to 26 that name a boundary. */
public final class BilletEdgesTest {
  private static final Due due = new Due();
  private static final Twins some = new Twins(due, Twins::furnished);

  public static void main(String[] args) {
    billet();
    billetOfMany();
    kindFor();
    loudFor();
    loudForOfHouses();
    eachFor();
    moveAll();
    moveAllFewest();
    moveAllOfNone();
    fits();
    fitsOfForty();
    kinds();
    kindsOfForty();
    feuds();
    feudsOfHouses();
    feudsAsOneByOne();
    odds();
    oddsOfNone();
    oddsInLowestTerms();
    seed();
    onlyTelling();
    due.end();
  }

  private static void billet() {
    due.by("The HOUSE IN which a PLANK must be now, so that GOLD is most behind n (0 to 60) YEARS. BEYOND.");
    ListenWood x = Due.withKinds(0);
    x.each(59);
    x.house(5, 0, 7);
    // The makers' year 59 is the 60th.
    due.is("60", x.billet(0, 60), 5);
    due.is("59", x.billet(0, 59), 0);
    due.is("0", x.billet(0, 0), 0);
    due.is("61", x.billet(0, 61), Due.BEYOND);
    due.is("-1", x.billet(0, -1), Due.BEYOND);
    x.house(0, 0, 8);
    x.house(0, 1, 50);
    // Grain 480 in house 0, but it cracks twelve times.
    due.is("cracks", x.billet(0, 60), 5);
    x.house(5, 0, 0);
    due.is("cracks, but no other so loud", x.billet(0, 60), 1);
    for (int h = 1; h < 5; h++) {
      x.house(h, 0, 0);
    }
    due.is("the first house", x.billet(0, 60), 0);
    due.is("it is where it was", x.of(0, 1), 0);
  }

  private static void billetOfMany() {
    due.by("The HOUSE IN which a PLANK must be now, so that GOLD is most behind n (0 to 60) YEARS.");
    // A plank that rings nowhere is best beside the pear, which hears it.
    ListenWood x = new ListenWood();
    x.go(1);
    x.each(60);
    for (int p = 0; p < 7; p++) {
      x.plank(5, 0);
    }
    x.plank(3, 4);
    due.is("beside the pear", x.billet(6, 60), 4);
    due.is("the pear beside all of them", x.billet(7, 60), 0);
    due.is("plank 8", x.billet(8, 60), Due.BEYOND);
  }

  private static void kindFor() {
    due.by("The KIND of which it must be for that. BEYOND.");
    ListenWood x = new ListenWood();
    x.plank(5, 1);
    x.each(59);
    due.is("60: a spruce", x.kindFor(0, 60), 1);
    due.is("59", x.kindFor(0, 59), 0);
    due.is("0", x.kindFor(0, 0), 0);
    due.is("61", x.kindFor(0, 61), Due.BEYOND);
    due.is("-1", x.kindFor(0, -1), Due.BEYOND);
    // Of mood 0 and loud 0 a maple, a pear and an ebony ring: 4 * 60 fetch 34; 60 fetch 3 * 16.
    x.house(1, 0, 0);
    x.house(1, 1, 0);
    due.is("60: an ebony", x.kindFor(0, 60), 4);
    x.each(30);
    // In year 30: a maple has 124, so 22; a pear as much.
    due.is("31: a maple", x.kindFor(0, 31), 2);
    ListenWood y = new ListenWood();
    y.go(1);
    for (int p = 0; p < 8; p++) {
      y.plank(5, 1);
    }
    y.each(60);
    // A pear beside seven hears 10 a year and fetches 60 + 50 + 10, a spruce hears 6: 2 * (36 + 46).
    due.is("the last plank", y.kindFor(7, 60), 1);
    y.house(1, 1, 0);
    y.house(1, 0, 2);
    // Tones stay 0: a spruce 2 * 24, a pear 78 + 10, an ebony 48.
    due.is("a pear beside seven", y.kindFor(7, 60), 3);
    due.is("plank 8", y.kindFor(8, 60), Due.BEYOND);
  }

  private static void loudFor() {
    due.by("The least LOUD of a HOUSE with which a PLANK RINGS behind n (0 to 60) YEARS. BEYOND. NONE.");
    ListenWood x = new ListenWood();
    x.plank(0, 5);
    x.each(60);
    due.is("60: 2", x.loudFor(5, 0, 60), 2);
    due.is("12: 9", x.loudFor(5, 0, 12), 9);
    due.is("11: none", x.loudFor(5, 0, 11), Due.NONE);
    due.is("0: none", x.loudFor(5, 0, 0), Due.NONE);
    due.is("61", x.loudFor(5, 0, 61), Due.BEYOND);
    due.is("-1", x.loudFor(5, 0, -1), Due.BEYOND);
    x.change(0, 2, 40);
    due.is("60: 1", x.loudFor(5, 0, 60), 1);
    x.change(0, 2, 39);
    due.is("60: 99 don't do", x.loudFor(5, 0, 60), 2);
    x.go(1);
    x.change(0, 2, 100);
    due.is("0: 0", x.loudFor(5, 0, 0), 0);
    due.is("60: taken in year 60", x.loudFor(5, 0, 60), Due.NONE);
    due.is("59: 0", x.loudFor(5, 0, 59), 0);
    due.is("loud stays", x.houseOf(5, 0), 3);
  }

  private static void loudForOfHouses() {
    due.by("The least LOUD of a HOUSE with which a PLANK RINGS behind n (0 to 60) YEARS.");
    ListenWood x = Due.withKinds(0, 0, 0, 0, 0, 0, 0, 0);
    x.go(1);
    x.each(60);
    x.change(7, 1, 4);
    x.change(7, 2, 0);
    due.is("its own house", x.loudFor(4, 7, 20), 5);
    due.is("another house", x.loudFor(5, 7, 20), Due.NONE);
    due.is("another house, late", x.loudFor(5, 7, 34), 0);
    due.is("the first house", x.loudFor(0, 0, 20), 5);
    due.is("house 6", x.loudFor(6, 7, 20), Due.BEYOND);
    due.is("house -1", x.loudFor(-1, 7, 20), Due.BEYOND);
    due.is("plank 8", x.loudFor(4, 8, 20), Due.BEYOND);
    due.is("plank -1", x.loudFor(4, -1, 20), Due.BEYOND);
  }

  private static void eachFor() {
    due.by("The EACH with which GOLD is most behind n (0 to 60) YEARS. BEYOND.");
    ListenWood none = new ListenWood();
    due.is("no planks", none.eachFor(60), 2);
    due.is("no planks, no years", none.eachFor(0), 2);
    ListenWood x = new ListenWood();
    x.go(1);
    x.plank(4, 1);
    // Years 1 to 60 go by: an ebony is 60 in year 60, and fetches 3 * (6 + 10) then. 30 comes then too.
    due.is("60: the least that comes in 60, not in 40 to 59", x.eachFor(60), 30);
    // In years 50 to 59 it fetches 3 * (5 + 10): 13 comes in 39, too soon, and in 52.
    due.is("59: the least that comes in 50 to 59, not in 40 to 49", x.eachFor(59), 13);
    due.is("39: nothing to take", x.eachFor(39), 2);
    due.is("40: the least of those that come in 40", x.eachFor(40), 2);
    due.is("0", x.eachFor(0), 2);
    // A plank that rings all the while is dearest at last, and 60 alone waits so long.
    x.change(0, 0, 0);
    x.change(0, 2, 100);
    x.house(1, 0, 1);
    due.is("60: the greatest", x.eachFor(60), 60);
    due.is("61", x.eachFor(61), Due.BEYOND);
    due.is("-1", x.eachFor(-1), Due.BEYOND);
    due.is("each stays", x.each(30), 30);
  }

  private static ListenWood eight() {
    ListenWood x = new ListenWood();
    x.go(1);
    x.each(60);
    x.house(0, 0, 0);
    x.house(5, 0, 5);
    for (int p = 0; p < 8; p++) {
      x.plank(0, 0);
    }
    return x;
  }

  private static void moveAll() {
    due.by("The set of fewest PLANKS such that, if these are IN a HOUSE now, all RING behind n (0 to 20) "
        + "YEARS; of several the least. BEYOND. NONE.");
    ListenWood x = eight();
    due.is("all of eight", x.moveAll(5, 20), 255);
    due.is("a year too early", x.moveAll(5, 19), Due.NONE);
    x.house(5, 0, 6);
    due.is("louder", x.moveAll(5, 19), 255);
    due.is("the house of loud 0", x.moveAll(0, 20), Due.NONE);
    for (int p = 0; p < 8; p++) {
      x.change(p, 2, 100);
    }
    due.is("all do already", x.moveAll(5, 0), 0);
    x.change(7, 2, 99);
    due.is("now, none can be moved so", x.moveAll(5, 0), Due.NONE);
    due.is("the last alone", x.moveAll(5, 1), 128);
    x.change(0, 2, 99);
    due.is("the last and the first", x.moveAll(5, 1), 129);
    due.is("21", x.moveAll(5, 21), Due.BEYOND);
    due.is("-1", x.moveAll(5, -1), Due.BEYOND);
    due.is("house 6", x.moveAll(6, 1), Due.BEYOND);
    due.is("house -1", x.moveAll(-1, 1), Due.BEYOND);
    due.is("they are where they were", x.houseOf(0, 2), 255);
  }

  private static void moveAllFewest() {
    due.by("all RING behind n (0 to 20) YEARS; of several the least.");
    // A pear of grain 60 in a house of loud 0 hears 4 a year, and one more for each beside it.
    ListenWood x = eight();
    for (int p = 0; p < 8; p++) {
      x.change(p, 1, 1);
      x.change(p, 2, 500);
    }
    x.change(3, 0, 3);
    x.change(3, 1, 0);
    x.change(3, 2, 0);
    x.change(3, 5, 500);
    due.is("20 years of 4 are too few: one", x.moveAll(0, 20), 1);
    due.is("17 years want two", x.moveAll(0, 17), 3);
    due.is("10 years want six, the least", x.moveAll(0, 10), 1 + 2 + 4 + 16 + 32 + 64);
    due.is("9 years want eight", x.moveAll(0, 9), Due.NONE);
    due.is("the pear among them is fewer", x.moveAll(1, 10), 8);
  }

  private static void moveAllOfNone() {
    due.by("The set of fewest PLANKS such that, if these are IN a HOUSE now, all RING");
    ListenWood x = new ListenWood();
    for (int h = 0; h < 6; h++) {
      due.is("no planks, 0", x.moveAll(h, 0), 0);
      due.is("no planks, 20", x.moveAll(h, 20), 0);
    }
    due.is("no finding", x.status(-1), 0);
  }

  private static void fits() {
    due.by("HOUSES IN which a PLANK could be now, as a set, so that GRAIN of it now and behind each YEAR "
        + "further on is as a sheet tells (-1: any). BEYOND: no such sheet. MISSING. BEYOND: no such "
        + "PLANK.");
    ListenWood x = Due.withKinds(0, 0, 0, 0, 0, 0, 0, 0);
    x.change(7, 2, 7);
    for (int h = 0; h < 6; h++) {
      x.house(h, 0, h);
    }
    x.sheet(3, 8, 0);
    due.is("no numbers: all", x.fits(3, 7), 63);
    x.sheet(3, 8, 1);
    due.is("grain isn't 0", x.fits(3, 7), 0);
    due.is("that of another is", x.fits(3, 6), 63);
    x.write(3, 0, 7);
    due.is("now alone: all", x.fits(3, 7), 63);
    for (int h = 0; h < 6; h++) {
      x.sheet(3, 8, 3);
      x.write(3, 0, 7);
      x.write(3, 1, -1);
      x.write(3, 2, 7 + 2 * h);
      due.is("loud " + h, x.fits(3, 7), 1 << h);
    }
    x.write(3, 1, -2);
    due.is("-2 isn't any", x.fits(3, 7), 0);
    x.write(3, 1, 12);
    due.is("each number counts", x.fits(3, 7), 32);
    x.write(3, 1, 11);
    due.is("each number counts, and isn't so", x.fits(3, 7), 0);
    x.write(3, 0, -1);
    x.write(3, 1, -1);
    x.write(3, 2, -1);
    due.is("any", x.fits(3, 7), 63);
    due.is("plank 8", x.fits(3, 8), Due.BEYOND);
    due.is("plank -1", x.fits(3, -1), Due.BEYOND);
    due.is("sheet 4", x.fits(4, 7), Due.BEYOND);
    due.is("sheet -1", x.fits(-1, 7), Due.BEYOND);
    due.is("sheet 0", x.fits(0, 7), Due.MISSING);
  }

  private static void fitsOfForty() {
    due.by("so that GRAIN of it now and behind each YEAR further on is as a sheet tells (-1: any).");
    ListenWood x = new ListenWood();
    x.go(1);
    x.each(60);
    x.plank(0, 0);
    x.house(4, 0, 4);
    x.sheet(0, 16, 40);
    for (int i = 0; i < 39; i++) {
      x.write(0, i, -1);
    }
    x.write(0, 39, 39 * 3);
    due.is("the last of forty", x.fits(0, 0), 63 - 16);
    x.write(0, 39, 39 * 4);
    due.is("the last of forty, louder", x.fits(0, 0), 16);
    x.write(0, 39, 39 * 5);
    due.is("the last of forty, too much", x.fits(0, 0), 0);
    for (int i = 0; i < 40; i++) {
      x.write(0, i, 4 * i);
    }
    due.is("all forty", x.fits(0, 0), 16);
    x.write(0, 38, 0);
    due.is("but for one", x.fits(0, 0), 0);
  }

  private static void kinds() {
    due.by("KINDS that it could be of, as a set, so that TONE of it now and behind each YEAR further on is "
        + "as a sheet tells (-1: any). BEYOND: no such sheet. MISSING. BEYOND: no such PLANK.");
    ListenWood x = Due.withKinds(0, 0, 0, 0, 0, 0, 0, 4);
    x.sheet(0, 8, 0);
    due.is("no numbers: all", x.kinds(0, 7), 127);
    x.sheet(0, 8, 1);
    due.is("now alone: all", x.kinds(0, 7), 127);
    x.write(0, 0, 1);
    due.is("tone isn't 1", x.kinds(0, 7), 0);
    // Mood 50, tone 0: 5 more, 10, 6, 12, 0, 5, 10.
    int[] tones = {5, 10, 6, 12, 0};
    int[] sets = {1 + 32, 2 + 64, 4, 8, 16};
    for (int i = 0; i < 5; i++) {
      x.sheet(0, 8, 2);
      x.write(0, 1, tones[i]);
      due.is("tone " + tones[i], x.kinds(0, 7), sets[i]);
    }
    x.write(0, 1, -1);
    due.is("any", x.kinds(0, 7), 127);
    x.write(0, 1, -2);
    due.is("-2 isn't any", x.kinds(0, 7), 0);
    due.is("it is what it was", x.of(7, 0), 4);
    due.is("plank 8", x.kinds(0, 8), Due.BEYOND);
    due.is("plank -1", x.kinds(0, -1), Due.BEYOND);
    due.is("sheet 4", x.kinds(4, 7), Due.BEYOND);
    due.is("sheet -1", x.kinds(-1, 7), Due.BEYOND);
    due.is("sheet 3", x.kinds(3, 7), Due.MISSING);
  }

  private static void kindsOfForty() {
    due.by("so that TONE of it now and behind each YEAR further on is as a sheet tells (-1: any).");
    ListenWood x = new ListenWood();
    x.go(1);
    x.each(60);
    x.plank(0, 1);
    x.sheet(0, 32, 40);
    for (int i = 0; i < 39; i++) {
      x.write(0, i, -1);
    }
    // At last: 41, 46, 50, 50, 0, 41, 46.
    x.write(0, 39, 41);
    due.is("the last of forty, 41", x.kinds(0, 0), 1 + 32);
    x.write(0, 39, 46);
    due.is("the last of forty, 46", x.kinds(0, 0), 2 + 64);
    x.write(0, 39, 50);
    due.is("the last of forty, 50", x.kinds(0, 0), 4 + 8);
    x.write(0, 39, 0);
    due.is("the last of forty, 0", x.kinds(0, 0), 16);
  }

  private static void feuds() {
    due.by("n times (1 to 20) three draws: MOOD of the HOUSE of the first one's rest by 6 is half (cut), "
        + "LOUD of it the second one's rest by 10;");
    ListenWood x = new ListenWood();
    due.is("20", x.feuds(20), 0);
    due.is("20 years", x.now(0), 20);
    due.is("1", x.feuds(1), 0);
    due.is("1 year", x.now(0), 21);
    due.is("0", x.feuds(0), Due.BEYOND);
    due.is("21", x.feuds(21), Due.BEYOND);
    due.is("still", x.now(0), 21);
    // Sixty-three draws from 1.
    int z = 1;
    for (int i = 0; i < 63; i++) {
      z = z * 1103515245 + 12345;
    }
    due.is("three draws each", x.count(6), z);
  }

  private static void feudsOfHouses() {
    due.by("the PLANK of the third one's rest by 8, if there is one, is IN the next HOUSE (behind 5 comes "
        + "0); then a YEAR: GOLD then.");
    // From z 1 the third draw's rest is 4.
    for (int h = 0; h < 6; h++) {
      ListenWood x = Due.withKinds(0, 0, 0, 0, 0);
      x.change(4, 1, h);
      x.feuds(1);
      due.is("behind house " + h, x.of(4, 1), h == 5 ? 0 : h + 1);
      for (int p = 0; p < 4; p++) {
        due.is("another", x.of(p, 1), 0);
      }
    }
    ListenWood y = Due.withKinds(0, 0, 0, 0);
    y.feuds(1);
    due.is("there is no plank 4", y.houseOf(0, 2), 15);
    due.is("one that comes then is where it's put", y.plank(0, 3), 4);
    due.is("in house 3", y.houseOf(3, 2), 16);
    // In year 0 the makers come, behind the feud: it hears the loud 2 of house 2, and is taken.
    ListenWood z = Due.withKinds(0);
    z.change(0, 1, 2);
    z.change(0, 2, 98);
    due.is("gold then", z.feuds(1), 10 + 2);
    due.is("taken", z.of(0, 6), 1);
  }

  private static void feudsAsOneByOne() {
    due.by("n times (1 to 20) three draws:");
    ListenWood x = Twins.furnished();
    ListenWood y = Twins.furnished();
    int gold = 0;
    for (int i = 0; i < 20; i++) {
      gold = x.feuds(1);
    }
    due.is("20 at once", y.feuds(20), gold);
    for (int h = 0; h < 6; h++) {
      for (int what = 0; what < 3; what++) {
        due.is("house " + h, y.houseOf(h, what), x.houseOf(h, what));
      }
    }
    for (int what = 0; what < 8; what++) {
      due.is("count " + what, y.count(what), x.count(what));
    }
  }

  private static void fraction(ListenWood x, int plank, int v, int n, long above, long below) {
    due.is("above, hears " + v + ", of " + n, x.odds(plank, v, n, 0), above);
    due.is("below, hears " + v + ", of " + n, x.odds(plank, v, n, 1), below);
  }

  private static void odds() {
    due.by("The odds that n (0 to 20) HOUSES, each the rest by 6 of a draw, are all such IN which a PLANK "
        + "would HEAR v (0 to 99) or more now, all else as it is:");
    ListenWood x = Due.withKinds(0, 0, 0, 0, 0, 0, 0, 1);
    x.house(5, 0, 9);
    fraction(x, 7, 18, 1, 1, 6);
    fraction(x, 7, 19, 1, 0, 1);
    fraction(x, 7, 17, 1, 1, 6);
    fraction(x, 7, 6, 20, 1, 1);
    fraction(x, 7, 7, 2, 1, 36);
    fraction(x, 7, 0, 20, 1, 1);
    fraction(x, 7, 99, 20, 0, 1);
    fraction(x, 7, 18, 20, 1, 3656158440062976L);
    due.is("v 100", x.odds(7, 100, 1, 0), Due.BEYOND);
    due.is("v -1", x.odds(7, -1, 1, 0), Due.BEYOND);
    due.is("n 21", x.odds(7, 1, 21, 0), Due.BEYOND);
    due.is("n -1", x.odds(7, 1, -1, 0), Due.BEYOND);
    due.is("plank 8", x.odds(8, 1, 1, 0), Due.BEYOND);
    due.is("plank -1", x.odds(-1, 1, 1, 0), Due.BEYOND);
    due.is("what 2", x.odds(7, 1, 1, 2), Due.BEYOND);
    due.is("what -1", x.odds(7, 1, 1, -1), Due.BEYOND);
    due.is("it is where it was", x.of(7, 1), 0);
    due.is("no draw was made", x.count(6), 1);
  }

  private static void oddsOfNone() {
    due.by("The odds that n (0 to 20) HOUSES, each the rest by 6 of a draw, are all such");
    ListenWood x = Due.withKinds(0);
    fraction(x, 0, 0, 0, 1, 1);
    fraction(x, 0, 3, 0, 1, 1);
    fraction(x, 0, 4, 0, 1, 1);
    fraction(x, 0, 99, 0, 1, 1);
  }

  private static void oddsInLowestTerms() {
    due.by("a fraction in lowest terms: above (what 0), below the line (1). BEYOND.");
    ListenWood x = Due.withKinds(0);
    int[] above = {0, 1, 1, 1, 2, 5, 1};
    int[] below = {1, 6, 3, 2, 3, 6, 1};
    for (int such = 0; such <= 6; such++) {
      long a = 1;
      long b = 1;
      for (int n = 0; n <= 20; n++) {
        fraction(x, 0, 4, n, a, b);
        a *= above[such];
        b *= below[such];
      }
      if (such < 6) {
        x.house(such, 0, 4);
      }
    }
  }

  private static void seed() {
    due.by("z becomes v: what it was.");
    ListenWood x = new ListenWood();
    due.is("the least", x.seed(Integer.MIN_VALUE), 1);
    due.is("the most", x.seed(Integer.MAX_VALUE), Integer.MIN_VALUE);
    due.is("0", x.seed(0), Integer.MAX_VALUE);
    due.is("as it was told", x.seed(-1000004), 0);
    due.is("told as it is", x.seed(1), -1000004);
    due.is("no finding", x.status(-1), 0);
    x.seed(Integer.MIN_VALUE);
    x.feuds(1);
    int z = Integer.MIN_VALUE;
    for (int i = 0; i < 3; i++) {
      z = z * 1103515245 + 12345;
    }
    due.is("draws go on from it", x.count(6), z);
  }

  private static void onlyTelling() {
    due.by("what will be (nothing changes).");
    for (int n : new int[] {0, 1, 60}) {
      some.onlyTells("17: billet " + n, x -> x.billet(4, n));
      some.onlyTells("18: kindFor " + n, x -> x.kindFor(4, n));
      some.onlyTells("20: eachFor " + n, x -> x.eachFor(n));
    }
    some.onlyTells("19: loudFor", x -> x.loudFor(0, 4, 0));
    for (int s = 0; s < 3; s++) {
      int sheet = s;
      some.onlyTells("22: fits " + s, x -> x.fits(sheet, 4));
      some.onlyTells("23: kinds " + s, x -> x.kinds(sheet, 4));
    }
    some.onlyTells("25: above", x -> x.odds(4, 4, 20, 0));
    some.onlyTells("25: below", x -> x.odds(4, 4, 20, 1));
    Twins ringing = new Twins(due, () -> {
      ListenWood x = eight();
      for (int p = 0; p < 8; p++) {
        x.change(p, 2, 93 + p);
      }
      return x;
    });
    ringing.told("21: moveAll", 127, x -> x.moveAll(5, 2));
  }
}
