/** Promises 17 to 23: where to billet, and houses and kinds by told numbers. */
public final class BilletTest {
  private static final Due due = new Due();

  public static void main(String[] args) {
    billet();
    kindFor();
    loudFor();
    eachFor();
    moveAll();
    moveAllOfMany();
    fits();
    kinds();
    due.end();
  }

  private static void billet() {
    ListenWood x = new ListenWood();
    due.is("17: no plank", x.billet(0, 0), Due.BEYOND);
    x.plank(0, 5);
    due.is("17: plank -1", x.billet(-1, 0), Due.BEYOND);
    due.is("17: plank 1", x.billet(1, 0), Due.BEYOND);
    due.is("17: n -1", x.billet(0, -1), Due.BEYOND);
    due.is("17: n 61", x.billet(0, 61), Due.BEYOND);
    due.is("17: all alike, the least", x.billet(0, 60), 0);
    x.each(10);
    x.house(4, 0, 9);
    x.house(3, 0, 9);
    x.house(3, 1, 99);
    // Louder cracks it, but it's taken in year 20 already, and again in 40.
    due.is("17: the loud and merry", x.billet(0, 60), 3);
    x.house(3, 1, 0);
    due.is("17: the loud", x.billet(0, 60), 4);
    due.is("17: too early", x.billet(0, 10), 0);
    due.is("17: now", x.billet(0, 0), 0);
    due.is("17: nothing changed", x.of(0, 1), 5);
  }

  private static void kindFor() {
    ListenWood x = new ListenWood();
    due.is("18: no plank", x.kindFor(0, 0), Due.BEYOND);
    x.plank(5, 1);
    due.is("18: plank 1", x.kindFor(1, 0), Due.BEYOND);
    due.is("18: n -1", x.kindFor(0, -1), Due.BEYOND);
    due.is("18: n 61", x.kindFor(0, 61), Due.BEYOND);
    due.is("18: now", x.kindFor(0, 0), 0);
    // Year 30: a spruce has 186 and 46, so 128; a fir 155 and 46, less a crack: 112.
    due.is("18: 31", x.kindFor(0, 31), 1);
    due.is("18: 30", x.kindFor(0, 30), 0);
    x.each(60);
    x.change(0, 5, 40);
    // An ebony old enough goes in year 0 for 30.
    due.is("18: 1", x.kindFor(0, 1), 4);
    due.is("18: nothing changed", x.of(0, 0), 5);
  }

  private static void loudFor() {
    ListenWood x = new ListenWood();
    due.is("19: no plank", x.loudFor(0, 0, 0), Due.BEYOND);
    x.plank(0, 1);
    due.is("19: house -1", x.loudFor(-1, 0, 0), Due.BEYOND);
    due.is("19: house 6", x.loudFor(6, 0, 0), Due.BEYOND);
    due.is("19: plank 1", x.loudFor(1, 1, 0), Due.BEYOND);
    due.is("19: n -1", x.loudFor(1, 0, -1), Due.BEYOND);
    due.is("19: n 61", x.loudFor(1, 0, 61), Due.BEYOND);
    due.is("19: 20", x.loudFor(1, 0, 20), 5);
    due.is("19: 19", x.loudFor(1, 0, 19), 6);
    due.is("19: 12", x.loudFor(1, 0, 12), 9);
    due.is("19: 11", x.loudFor(1, 0, 11), Due.NONE);
    due.is("19: another house, too early", x.loudFor(2, 0, 20), Due.NONE);
    x.each(60);
    due.is("19: another house, late", x.loudFor(2, 0, 34), 0);
    due.is("19: 60", x.loudFor(1, 0, 60), 2);
    x.change(0, 2, 100);
    due.is("19: now", x.loudFor(1, 0, 0), 0);
    due.is("19: nothing changed", x.houseOf(1, 0), 3);
  }

  private static void eachFor() {
    ListenWood x = new ListenWood();
    due.is("20: -1", x.eachFor(-1), Due.BEYOND);
    due.is("20: 61", x.eachFor(61), Due.BEYOND);
    due.is("20: nothing to take", x.eachFor(60), 2);
    x.plank(4, 0);
    due.is("20: now", x.eachFor(0), 2);
    // An ebony rings from its 40th year on, in year 39: of 2 to 60, 3 comes then, 2 comes in 40.
    due.is("20: 40", x.eachFor(40), 3);
    // In year 40 2 does as well: its grain is 41 then as it is 40 in 39, so 4 each.
    due.is("20: 41", x.eachFor(41), 2);
    // Later is dearer: in year 59 its grain is 60, so 6; 59 is the one that comes just then.
    due.is("20: 60", x.eachFor(60), 59);
    due.is("20: nothing changed", x.each(30), 30);
    // In a house of loud 1 it rings but once in 60 years: grain 160 in year 60, 159 in year 59.
    ListenWood y = new ListenWood();
    y.go(1);
    y.plank(0, 1);
    y.house(1, 0, 1);
    y.change(0, 2, 100);
    due.is("20: as late as can be", y.eachFor(60), 60);
    due.is("20: a year less", y.eachFor(59), 50);
  }

  private static void moveAll() {
    ListenWood x = new ListenWood();
    due.is("21: house -1", x.moveAll(-1, 0), Due.BEYOND);
    due.is("21: house 6", x.moveAll(6, 0), Due.BEYOND);
    due.is("21: n -1", x.moveAll(0, -1), Due.BEYOND);
    due.is("21: n 21", x.moveAll(0, 21), Due.BEYOND);
    due.is("21: none there", x.moveAll(0, 20), 0);
    x.each(60);
    x.go(1);
    x.plank(0, 0);
    x.plank(0, 0);
    x.plank(0, 1);
    x.house(1, 0, 9);
    due.is("21: the two", x.moveAll(1, 12), 3);
    due.is("21: too early", x.moveAll(1, 11), Due.NONE);
    x.change(0, 2, 90);
    due.is("21: the one", x.moveAll(1, 12), 2);
    due.is("21: to the still", x.moveAll(0, 12), Due.NONE);
    x.change(1, 2, 90);
    due.is("21: no one", x.moveAll(1, 12), 0);
    due.is("21: not now", x.moveAll(1, 0), Due.NONE);
    due.is("21: nothing changed", x.houseOf(0, 2), 3);
    x.change(0, 2, 89);
    x.change(1, 2, 89);
    x.change(2, 2, 89);
    due.is("21: both again", x.moveAll(1, 3), 3);
    for (int p = 0; p < 3; p++) {
      x.change(p, 2, 100);
    }
    due.is("21: now", x.moveAll(1, 0), 0);
  }

  private static void moveAllOfMany() {
    ListenWood x = new ListenWood();
    x.each(60);
    x.go(1);
    // A pear hears one more for each beside it: any plank beside it will do, the least is 0.
    x.plank(0, 1);
    x.plank(3, 2);
    x.plank(0, 1);
    for (int p = 0; p < 3; p++) {
      x.change(p, 2, 200);
    }
    x.change(1, 2, 60);
    x.change(1, 5, 20);
    due.is("21: too early for the pear", x.moveAll(2, 7), Due.NONE);
    due.is("21: one is too few", x.moveAll(2, 9), 5);
    due.is("21: one beside the pear, the least", x.moveAll(2, 10), 1);
    due.is("21: two beside the pear", x.moveAll(2, 8), 5);
  }

  private static void fits() {
    ListenWood x = new ListenWood();
    due.is("22: sheet -1", x.fits(-1, 0), Due.BEYOND);
    due.is("22: sheet 4", x.fits(4, 0), Due.BEYOND);
    due.is("22: missing ahead of no plank", x.fits(0, 0), Due.MISSING);
    Due.sheet(x, 0);
    due.is("22: no plank", x.fits(0, 0), Due.BEYOND);
    x.plank(0, 1);
    due.is("22: plank -1", x.fits(0, -1), Due.BEYOND);
    due.is("22: an empty sheet", x.fits(0, 0), 63);
    x.house(2, 0, 5);
    x.house(4, 0, 5);
    Due.sheet(x, 1, 0, 5, 10);
    due.is("22: those of 5", x.fits(1, 0), 20);
    Due.sheet(x, 1, 0, -1, 6);
    due.is("22: those of 3", x.fits(1, 0), 43);
    Due.sheet(x, 1, 1, 4);
    due.is("22: not now", x.fits(1, 0), 0);
    Due.sheet(x, 1, -1, -1);
    due.is("22: any", x.fits(1, 0), 63);
    Due.sheet(x, 1, 0, 5, 11);
    due.is("22: not then", x.fits(1, 0), 0);
    Due.sheet(x, 1, -2);
    due.is("22: -2 is none", x.fits(1, 0), 0);
    x.sheet(2, 8, 2);
    x.write(2, 0, 255);
    x.write(2, 1, 5);
    due.is("22: 255 of 8 bits is any", x.fits(2, 0), 20);
    due.is("22: nothing changed", x.of(0, 1), 1);
  }

  private static void kinds() {
    ListenWood x = new ListenWood();
    due.is("23: sheet -1", x.kinds(-1, 0), Due.BEYOND);
    due.is("23: sheet 4", x.kinds(4, 0), Due.BEYOND);
    due.is("23: missing ahead of no plank", x.kinds(3, 0), Due.MISSING);
    Due.sheet(x, 3);
    due.is("23: no plank", x.kinds(3, 0), Due.BEYOND);
    x.plank(3, 1);
    due.is("23: plank 1", x.kinds(3, 1), Due.BEYOND);
    due.is("23: an empty sheet", x.kinds(3, 0), 127);
    Due.sheet(x, 3, 0, 5);
    due.is("23: as a plank", x.kinds(3, 0), 33);
    Due.sheet(x, 3, -1, 10);
    due.is("23: as a spruce", x.kinds(3, 0), 66);
    Due.sheet(x, 3, 0, 6, 11);
    due.is("23: as a maple", x.kinds(3, 0), 4);
    Due.sheet(x, 3, 0, 12);
    due.is("23: as a pear", x.kinds(3, 0), 8);
    Due.sheet(x, 3, 0, 0, 0);
    due.is("23: as an ebony", x.kinds(3, 0), 16);
    Due.sheet(x, 3, 0, -1);
    due.is("23: any", x.kinds(3, 0), 127);
    Due.sheet(x, 3, 7);
    due.is("23: none", x.kinds(3, 0), 0);
    due.is("23: nothing changed", x.of(0, 0), 3);
  }
}
