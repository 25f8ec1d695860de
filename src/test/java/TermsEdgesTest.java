/** The sentences of "Terms" that name a boundary, but for those of texts: one method for each. */
public final class TermsEdgesTest {
  private static final int PLANK = 0;
  private static final int SPRUCE = 1;
  private static final int MAPLE = 2;
  private static final int PEAR = 3;
  private static final int EBONY = 4;
  private static final int DEAL = 5;
  private static final int FIR = 6;

  private static final Due due = new Due();

  public static void main(String[] args) {
    findings();
    zIsNoFinding();
    orderOfFindings();
    quotientsAreCut();
    setsAreBits();
    theLeastNumberCounts();
    houses();
    list();
    each();
    goldHeld();
    planks();
    hears();
    hearsBeside();
    hearsByMood();
    follows();
    rings();
    splits();
    fetches();
    eventComesFirst();
    numbersHeld();
    aheadOfTheThree();
    makersTake();
    takenIsHeld();
    yearIsOneMore();
    draws();
    spots();
    sheets();
    signs();
    due.end();
  }

  private static void findings() {
    due.by("FINDINGS are answers below -1000000: LOW is -1000001; LOW BEYOND, LOW - 1 FULL, LOW - 2 KIND, "
        + "LOW - 3 NONE, LOW - 4 STATE, LOW - 5 MISSING, LOW - 6 SIZE (in longs, too).");
    ListenWood x = Due.withKinds(0, 0, 0, 0, 0, 0, 0, 0);
    due.is("beyond", x.each(1), -1000001);
    due.is("beyond, in longs", x.odds(8, 0, 0, 0), -1000001L);
    due.is("full", x.plank(0, 0), -1000002);
    x.hold(0, 0);
    due.is("kind", x.as(0, 1), -1000003);
    due.is("none", x.undo(), -1000004);
    due.is("missing", x.judge(0), -1000006);
    due.is("size", x.sheet(0, 8, -1), -1000007);
    int[] told = {2, 1, 1, 1, 0, 1, 1};
    for (int which = 0; which < 7; which++) {
      due.is("status " + which, x.status(which), told[which]);
    }
  }

  private static void zIsNoFinding() {
    due.by("What seed() and count(6) tell, z, may be any int: that is no finding.");
    ListenWood x = new ListenWood();
    int was = 1;
    int[] all = {Integer.MIN_VALUE, Integer.MAX_VALUE, -1, 0, -1000000, -1000001, -1000002, -1000003,
        -1000004, -1000005, -1000006, -1000007, -1000008};
    for (int z : all) {
      due.is("seed " + z, x.seed(z), was);
      due.is("count 6 of " + z, x.count(6), z);
      was = z;
    }
    due.is("seed again", x.seed(5), -1000008);
    for (int which = -1; which < 7; which++) {
      due.is("status " + which, x.status(which), 0);
    }
  }

  private static void orderOfFindings() {
    due.by("Each act tells its findings in the order in which they are asked (that of its words)");
    ListenWood x = Due.withKinds(0, 0, 0, 0, 0, 0, 0, 0);
    due.is("BEYOND ahead of FULL", x.plank(7, 0), Due.BEYOND);
    due.is("MISSING ahead of BEYOND", x.fits(0, 8), Due.MISSING);
    due.is("MISSING ahead of BEYOND again", x.kinds(0, 8), Due.MISSING);
    due.is("BEYOND ahead of MISSING", x.as(0, 7), Due.BEYOND);
    due.is("MISSING ahead of KIND", x.as(0, 6), Due.MISSING);
    due.is("BEYOND ahead of SIZE", x.sheet(0, 7, -1), Due.BEYOND);
    due.is("BEYOND ahead of SIZE again", x.sheet(4, 8, -1), Due.BEYOND);
    due.is("MISSING ahead of BEYOND, a number", x.write(0, 40, 0), Due.MISSING);
    due.is("BEYOND ahead of MISSING, sheets", x.copy(0, 0, 4, 0, 0), Due.BEYOND);
    x.sheet(1, 8, 1);
    due.is("MISSING ahead of KIND, sheets", x.copy(1, 0, 0, 0, 0), Due.MISSING);
    x.sheet(2, 16, 1);
    due.is("KIND ahead of BEYOND", x.copy(1, 0, 2, 0, 2), Due.KIND);
    for (int i = 0; i < 30; i++) {
      x.feed(0, 4);
    }
    due.is("BEYOND ahead of FULL, bytes", x.feed(0, 5), Due.BEYOND);
    due.is("FULL then", x.feed(0, 4), Due.FULL);
  }

  private static void quotientsAreCut() {
    due.by("Quotients are cut (towards 0).");
    due.is("a tenth of 9", of(PLANK, 8, 9, 0), 0);
    due.is("a tenth of -9", of(PLANK, 8, 0, 9), 0);
    due.is("a tenth of -19", of(PLANK, 8, 0, 19), -1);
    due.is("a fifth of -4", of(SPRUCE, 8, 0, 4), 0);
    due.is("a fifth of -9", of(SPRUCE, 8, 0, 9), -1);
    due.is("a fifth of 4", of(SPRUCE, 8, 4, 0), 0);
    due.is("twice a tenth of -19", of(PEAR, 8, 0, 19), -2);
    ListenWood x = Due.withKinds(PLANK);
    x.change(0, 2, 9);
    due.is("a tenth of grain 9", x.of(0, 11), 0);
    x.change(0, 2, 19);
    due.is("a tenth of grain 19", x.of(0, 11), 1);
    // From z 1 a feud is in house 2; in year 0 the list has house 0.
    x.house(2, 1, 99);
    x.feuds(1);
    due.is("half of 99", x.houseOf(2, 1), 49);
    ListenWood y = new ListenWood();
    y.house(2, 1, 1);
    y.feuds(1);
    due.is("half of 1", y.houseOf(2, 1), 0);
  }

  /** What of() tells of a plank of that kind with that tone, in a house of that mood. */
  private static int of(int kind, int what, int mood, int tone) {
    ListenWood x = Due.withKinds(kind);
    x.house(0, 1, mood);
    x.change(0, 3, tone);
    return x.of(0, what);
  }

  private static void setsAreBits() {
    due.by("Sets are told as bits");
    ListenWood x = Due.withKinds(0, 0, 0, 0, 0, 0, 0, 0);
    due.is("planks 0 to 7", x.houseOf(0, 2), 255);
    due.is("no planks", x.houseOf(5, 2), 0);
    x.change(7, 1, 5);
    due.is("plank 7", x.houseOf(5, 2), 128);
    due.is("planks 0 to 6", x.houseOf(0, 2), 127);
    due.is("none ring", x.now(2), 0);
    x.change(7, 2, 100);
    due.is("7 rings", x.now(2), 128);
    for (int p = 0; p < 7; p++) {
      x.change(p, 2, 100);
    }
    due.is("0 to 7 ring", x.now(2), 255);
  }

  private static void theLeastNumberCounts() {
    due.by("of several that would do the least number counts, where nothing else is told.");
    ListenWood x = Due.withKinds(DEAL, DEAL, DEAL);
    x.change(2, 1, 5);
    due.is("the dearest of alike", x.now(5), 0);
    due.is("houses alike", x.billet(2, 60), 0);
    due.is("kinds alike", x.kindFor(1, 5), 0);
    due.is("each alike", x.eachFor(60), 2);
    ListenWood y = Due.withKinds(PLANK, PLANK);
    y.go(1);
    y.each(60);
    y.change(0, 2, 90);
    y.change(1, 2, 90);
    y.house(0, 0, 0);
    y.house(1, 0, 0);
    y.change(1, 1, 1);
    y.house(3, 0, 7);
    y.house(4, 0, 7);
    due.is("louds: the least that does", y.loudFor(0, 0, 10), 1);
    due.is("sets of one", y.moveAll(3, 2), 3);
    // Grain alike in house 3 and house 4 and no other so loud.
    y.each(13);
    due.is("houses alike, two", y.billet(0, 13), 3);
  }

  private static void houses() {
    due.by("HOUSES 0 to 5, each so LOUD (0 to 9; 3 at first), with a MOOD (0 to 99; 50 at first).");
    ListenWood x = new ListenWood();
    for (int h = 0; h < 6; h++) {
      due.is("loud at first", x.houseOf(h, 0), 3);
      due.is("mood at first", x.houseOf(h, 1), 50);
    }
    for (int h = 0; h < 6; h++) {
      due.is("loud 9", x.house(h, 0, 9), 3);
      due.is("loud 0", x.house(h, 0, 0), 9);
      due.is("mood 99", x.house(h, 1, 99), 50);
      due.is("mood 0", x.house(h, 1, 0), 99);
      due.is("loud 10", x.house(h, 0, 10), Due.BEYOND);
      due.is("loud -1", x.house(h, 0, -1), Due.BEYOND);
      due.is("mood 100", x.house(h, 1, 100), Due.BEYOND);
      due.is("mood -1", x.house(h, 1, -1), Due.BEYOND);
      due.is("loud then", x.houseOf(h, 0), 0);
      due.is("mood then", x.houseOf(h, 1), 0);
      due.is("loud of the next", x.houseOf((h + 1) % 6, 0), h == 5 ? 0 : 3);
    }
    due.is("house 6", x.houseOf(6, 0), Due.BEYOND);
    due.is("house -1", x.houseOf(-1, 0), Due.BEYOND);
  }

  private static void list() {
    due.by("THE LIST: six EVENTS, one for YEAR modulo 6: a HOUSE whose MOOD becomes so much; told as one "
        + "number, 100 * HOUSE and MOOD together (50 at first).");
    ListenWood x = new ListenWood();
    int[] events = {0, 99, 100, 199, 500, 599};
    int[] house = {0, 0, 1, 1, 5, 5};
    int[] mood = {0, 99, 0, 99, 0, 99};
    for (int i = 0; i < 6; i++) {
      due.is("at first", x.event(i, events[i]), 50);
    }
    // Thrice through the list: behind place 5 comes place 0.
    for (int year = 0; year < 18; year++) {
      for (int h = 0; h < 6; h++) {
        x.house(h, 1, 11);
      }
      x.go(1);
      for (int h = 0; h < 6; h++) {
        boolean isIt = h == house[year % 6];
        due.is("mood of " + h + " in year " + year, x.houseOf(h, 1), isIt ? mood[year % 6] : 11);
      }
    }
  }

  private static void each() {
    due.by("EACH (makers come in YEARS that are multiples of it, 2 to 60; 30 at first).");
    ListenWood x = new ListenWood();
    for (int year = 0; year <= 61; year++) {
      due.is("30 in " + year, x.now(7), year == 0 || year == 30 || year == 60 ? 1 : 0);
      x.each(2);
      due.is("2 in " + year, x.now(7), 1 - year % 2);
      x.each(60);
      due.is("60 in " + year, x.now(7), year == 0 || year == 60 ? 1 : 0);
      due.is("each", x.each(30), 60);
      x.go(1);
    }
  }

  private static void goldHeld() {
    due.by("GOLD is what it FETCHES more (99999 at most)");
    ListenWood x = new ListenWood();
    x.house(1, 0, 7);
    x.house(1, 1, 99);
    x.each(60);
    for (int p = 0; p < 8; p++) {
      x.plank(SPRUCE, 1);
    }
    due.by("GOLD (0 to 99999; 0 at first).");
    due.is("gold at first", x.go(1), 0);
    // In year 60 each has grain 61 * 14 and tone 95, so 2 * (85 + 95); later grain 60 * 14, so 358.
    for (int k = 1; k <= 37; k++) {
      int gold = Math.min(99999, 8 * 360 + (k - 1) * 8 * 358);
      due.is("gold ahead of " + 60 * k, x.gold(60), gold);
      due.is("gold of " + 60 * k, x.go(60), gold);
      due.is("taken of " + 60 * k, x.of(7, 6), k);
    }
    due.is("now", x.now(1), 99999);
    due.is("count", x.count(2), 99999);
    due.is("no house fetches more", x.billet(0, 60), 0);
  }

  private static void planks() {
    due.by("PLANKS 0, 1, .. (at most 8), of KINDS: 0 PLANK; 1 SPRUCE, 2 MAPLE, 5 DEAL under PLANK; 3 PEAR "
        + "under MAPLE; 4 EBONY under PEAR; 6 FIR under SPRUCE; each IN a HOUSE, with GRAIN (0 to 999; 0 "
        + "at first), a TONE (0 to 99; 0 at first), CRACKS (0 to 9; 0 at first), an AGE (0 to 9999; 0 at "
        + "first), TAKEN (how often a PLANK of its place was; 0 to 9999; 0 at first).");
    ListenWood x = new ListenWood();
    x.image();
    int[] most = {6, 5, 999, 99, 9, 9999, 9999};
    for (int p = 0; p < 8; p++) {
      due.is("the next", x.plank(p % 7, 5 - p % 6), p);
      due.is("kind", x.change(p, 0, 6), p % 7);
      due.is("house", x.change(p, 1, 5), 5 - p % 6);
      for (int what = 2; what < 7; what++) {
        due.is("at first", x.change(p, what, most[what]), 0);
        due.is("the most", x.change(p, what, most[what] + 1), Due.BEYOND);
        due.is("the least", x.change(p, what, -1), Due.BEYOND);
        due.is("so it is", x.of(p, what), most[what]);
      }
    }
    due.is("a ninth", x.plank(0, 0), Due.FULL);
    due.is("there is none", x.of(8, 0), Due.BEYOND);
    // Places that were in use are as at first when they are used again.
    x.undo();
    due.is("a text is none the less read", Due.text(x, "maple"), 1);
    due.is("the first again", x.plank(PEAR, 4), 1);
    for (int what = 2; what < 7; what++) {
      due.is("at first, again", x.of(0, what), 0);
      due.is("at first, again", x.of(1, what), 0);
    }
  }

  private static void hears() {
    due.by("HEARS (GRAIN more in a YEAR): PLANK: LOUD of its HOUSE. SPRUCE: twice a PLANK. FIR: as a "
        + "SPRUCE, less 1 (0 at least). MAPLE: as a PLANK, and 4, if LOUD is 2 or less.");
    int[][] wanted = {
      {0, 1, 2, 3, 4, 5, 6, 7, 8, 9},
      {0, 2, 4, 6, 8, 10, 12, 14, 16, 18},
      {4, 5, 6, 3, 4, 5, 6, 7, 8, 9},
      {4, 5, 6, 3, 4, 5, 6, 7, 8, 9},
      {1, 1, 1, 1, 1, 1, 1, 1, 1, 1},
      {0, 1, 2, 3, 4, 5, 6, 7, 8, 9},
      {0, 1, 3, 5, 7, 9, 11, 13, 15, 17}};
    for (int kind = 0; kind < 7; kind++) {
      ListenWood x = Due.withKinds(kind);
      for (int loud = 0; loud < 10; loud++) {
        x.house(0, 0, loud);
        due.is("kind " + kind + " at loud " + loud, x.of(0, 7), wanted[kind][loud]);
        due.is("and so in a year", x.ahead(0, 2, 1), wanted[kind][loud]);
      }
    }
  }

  private static void hearsBeside() {
    due.by("PEAR: as a MAPLE, and 1 for each other PLANK IN its HOUSE. EBONY: 1.");
    ListenWood x = Due.withKinds(PEAR);
    due.is("alone", x.of(0, 7), 3);
    int[] beside = {PLANK, SPRUCE, MAPLE, PEAR, EBONY, DEAL, FIR};
    for (int p = 1; p < 8; p++) {
      x.plank(beside[p - 1], 1);
      due.is("one more elsewhere", x.of(0, 7), 3 + p - 1);
      x.change(p, 1, 0);
      due.is("one more beside it", x.of(0, 7), 3 + p);
    }
    x.house(0, 0, 2);
    due.is("the most beside it, and stiller", x.of(0, 7), 2 + 4 + 7);
    x.change(0, 0, EBONY);
    due.is("an ebony hears none of them", x.of(0, 7), 1);
    x.change(0, 0, MAPLE);
    due.is("nor does a maple", x.of(0, 7), 6);
  }

  private static void hearsByMood() {
    due.by("DEAL: as a PLANK, but 0, if MOOD of its HOUSE is below 30.");
    int[] moods = {0, 1, 29, 30, 31, 99};
    for (int mood : moods) {
      due.is("a deal at " + mood, of(DEAL, 7, mood, 0), mood < 30 ? 0 : 3);
      due.is("a plank at " + mood, of(PLANK, 7, mood, 0), 3);
    }
  }

  private static void follows() {
    due.by("FOLLOWS (TONE more, or less, in a YEAR): PLANK: a tenth (cut) of MOOD of its HOUSE less TONE. "
        + "SPRUCE: a fifth (cut) of that. FIR: as a SPRUCE. MAPLE: as a PLANK, and 1, if MOOD is greater "
        + "than TONE. PEAR: twice a MAPLE. EBONY: 0. DEAL: as a PLANK.");
    int[] gaps = {-99, -10, -9, -5, -4, -1, 0, 1, 4, 5, 9, 10, 99};
    int[] plank = {-9, -1, 0, 0, 0, 0, 0, 0, 0, 0, 0, 1, 9};
    int[] spruce = {-19, -2, -1, -1, 0, 0, 0, 0, 0, 1, 1, 2, 19};
    int[] maple = {-9, -1, 0, 0, 0, 0, 0, 1, 1, 1, 1, 2, 10};
    int[] pear = {-18, -2, 0, 0, 0, 0, 0, 2, 2, 2, 2, 4, 20};
    int[] ebony = new int[13];
    int[][] wanted = {plank, spruce, maple, pear, ebony, plank, spruce};
    for (int kind = 0; kind < 7; kind++) {
      for (int i = 0; i < 13; i++) {
        int mood = Math.max(0, gaps[i]);
        due.is("kind " + kind + ", gap " + gaps[i], of(kind, 8, mood, mood - gaps[i]), wanted[kind][i]);
      }
    }
  }

  private static void ring(int kind, int grain, int tone, int cracks, int age, int wanted) {
    ListenWood x = Due.withKinds(kind);
    x.change(0, 2, grain);
    x.change(0, 3, tone);
    x.change(0, 4, cracks);
    x.change(0, 5, age);
    String call = "kind " + kind + ": " + grain + ", " + tone + ", " + cracks + ", " + age;
    due.is(call, x.of(0, 9), wanted);
    due.is(call + ", as a set", x.now(2), wanted);
    due.is(call + ", behind no years", x.rings(0) == 0 ? 1 : 0, wanted);
  }

  private static void rings() {
    due.by("RINGS: PLANK: if GRAIN is 100 or more. SPRUCE: as a PLANK, or if GRAIN is 60 or more and TONE "
        + "30 or more. FIR: as a SPRUCE, but not, if CRACKS are above 2. MAPLE: as a PLANK. PEAR: as a "
        + "MAPLE, and if AGE is 20 or more. EBONY: if AGE is 40 or more. DEAL: no.");
    for (int kind : new int[] {PLANK, MAPLE}) {
      ring(kind, 99, 99, 0, 9999, 0);
      ring(kind, 100, 0, 9, 0, 1);
      ring(kind, 101, 0, 0, 0, 1);
      ring(kind, 999, 0, 0, 0, 1);
    }
    for (int kind : new int[] {SPRUCE, FIR}) {
      ring(kind, 99, 29, 0, 9999, 0);
      ring(kind, 100, 0, 0, 0, 1);
      ring(kind, 99, 30, 0, 0, 1);
      ring(kind, 60, 29, 0, 0, 0);
      ring(kind, 60, 30, 2, 0, 1);
      ring(kind, 59, 30, 0, 0, 0);
      ring(kind, 59, 99, 0, 0, 0);
      ring(kind, 61, 31, 0, 0, 1);
      ring(kind, 99, 99, 0, 0, 1);
      ring(kind, 60, 30, 3, 0, kind == FIR ? 0 : 1);
      ring(kind, 100, 0, 2, 0, 1);
      ring(kind, 100, 0, 3, 0, kind == FIR ? 0 : 1);
      ring(kind, 999, 99, 9, 9999, kind == FIR ? 0 : 1);
    }
    ring(PEAR, 100, 0, 9, 20, 1);
    ring(PEAR, 100, 0, 0, 19, 0);
    ring(PEAR, 99, 99, 0, 20, 0);
    ring(PEAR, 999, 99, 0, 0, 0);
    ring(PEAR, 100, 0, 0, 9999, 1);
    ring(EBONY, 0, 0, 9, 40, 1);
    ring(EBONY, 999, 99, 0, 39, 0);
    ring(EBONY, 0, 0, 0, 9999, 1);
    ring(DEAL, 999, 99, 0, 9999, 0);
  }

  private static void splits() {
    due.by("SPLITS (CRACKS more in a YEAR): PLANK: 1, if LOUD of its HOUSE is 8 or more and YEAR is a "
        + "multiple of 5, else 0. SPRUCE: as a PLANK. FIR: as a SPRUCE, and 1, if TONE is 0. MAPLE, PEAR: "
        + "as a PLANK. EBONY: 0. DEAL: 1, if YEAR is odd, else 0.");
    for (int loud : new int[] {0, 7, 8, 9}) {
      ListenWood x = Due.withKinds(PLANK, SPRUCE, MAPLE, PEAR, EBONY, DEAL, FIR, FIR);
      x.house(0, 0, loud);
      for (int year = 0; year < 12; year++) {
        x.change(6, 3, 0);
        x.change(7, 3, 1);
        int asPlank = loud >= 8 && (year == 0 || year == 5 || year == 10) ? 1 : 0;
        int[] wanted = {asPlank, asPlank, asPlank, asPlank, 0, year % 2, asPlank + 1, asPlank};
        for (int p = 0; p < 8; p++) {
          due.is("plank " + p + ", loud " + loud + ", year " + year, x.of(p, 10), wanted[p]);
        }
        x.go(1);
      }
    }
  }

  private static void fetches() {
    due.by("FETCHES: PLANK: a tenth (cut) of GRAIN, and TONE, less 5 for each of CRACKS (0 at least). "
        + "SPRUCE: twice a PLANK. FIR: as a SPRUCE. MAPLE: as a PLANK, and 10. PEAR: as a MAPLE. EBONY: "
        + "thrice a PEAR. DEAL: 1.");
    int[][] numbers = {{0, 0, 0, 0}, {9, 0, 0, 0}, {10, 0, 0, 1}, {999, 99, 0, 198}, {0, 99, 0, 99},
        {0, 4, 1, 0}, {0, 5, 1, 0}, {0, 6, 1, 1}, {50, 0, 1, 0}, {60, 0, 1, 1}, {0, 45, 9, 0},
        {0, 46, 9, 1}, {999, 99, 9, 153}, {0, 0, 9, 0}};
    for (int[] n : numbers) {
      int[] wanted = {n[3], 2 * n[3], n[3] + 10, n[3] + 10, 3 * n[3] + 30, 1, 2 * n[3]};
      for (int kind = 0; kind < 7; kind++) {
        ListenWood x = Due.withKinds(kind);
        for (int what = 2; what < 5; what++) {
          x.change(0, what, n[what - 2]);
        }
        due.is("kind " + kind + ": " + n[0] + ", " + n[1] + ", " + n[2], x.of(0, 11), wanted[kind]);
      }
    }
  }

  private static void eventComesFirst() {
    due.by("A YEAR goes by: (1) the EVENT of THE LIST for YEAR modulo 6. (2) PLANKS by numbers:");
    ListenWood x = Due.withKinds(DEAL, PLANK);
    x.event(0, 29);
    x.event(1, 30);
    x.event(2, 99);
    x.go(1);
    due.is("a deal hears nothing at 29", x.of(0, 2), 0);
    due.is("a plank follows 29", x.of(1, 3), 2);
    x.go(1);
    due.is("a deal hears at 30", x.of(0, 2), 3);
    due.is("a plank follows 30", x.of(1, 3), 4);
    x.go(1);
    due.is("a plank follows 99", x.of(1, 3), 13);
  }

  private static void grown(int kind, int what, int was, int wanted) {
    ListenWood x = new ListenWood();
    x.go(1);
    x.house(1, 0, 9);
    x.house(1, 1, what == 3 ? 99 : 0);
    x.plank(kind, 1);
    x.change(0, what, was);
    due.is("ahead: kind " + kind + ", what " + what + " of " + was, x.ahead(0, what, 1), wanted);
    x.go(1);
    due.is("kind " + kind + ", what " + what + " of " + was, x.of(0, what), wanted);
  }

  private static void numbersHeld() {
    due.by("GRAIN is what one HEARS more (999 at most), TONE what it FOLLOWS more (held within 0 to 99), "
        + "CRACKS what it SPLITS more (9 at most)");
    grown(PLANK, 2, 989, 998);
    grown(PLANK, 2, 990, 999);
    grown(PLANK, 2, 991, 999);
    grown(PLANK, 2, 999, 999);
    grown(SPRUCE, 2, 981, 999);
    grown(SPRUCE, 2, 982, 999);
    grown(PEAR, 3, 96, 98);
    grown(PEAR, 3, 97, 99);
    grown(PEAR, 3, 98, 99);
    grown(PEAR, 3, 99, 99);
    // In year 1 a deal gets one crack, and so does a fir without a tone.
    grown(DEAL, 4, 7, 8);
    grown(DEAL, 4, 8, 9);
    grown(DEAL, 4, 9, 9);
    grown(FIR, 4, 8, 9);
    grown(FIR, 4, 9, 9);
    due.by("then AGE is 1 more (9999 at most).");
    grown(DEAL, 5, 9997, 9998);
    grown(DEAL, 5, 9998, 9999);
    grown(DEAL, 5, 9999, 9999);
    // In year 0 a loud fir without a tone gets two cracks.
    ListenWood x = Due.withKinds(FIR, FIR, FIR);
    x.house(0, 0, 8);
    x.change(0, 4, 7);
    x.change(1, 4, 8);
    x.change(2, 4, 9);
    x.go(1);
    for (int p = 0; p < 3; p++) {
      due.is("two cracks more, of " + (7 + p), x.of(p, 4), 9);
    }
    // The lowest mood leaves the lowest tone.
    ListenWood y = Due.withKinds(PLANK, SPRUCE, MAPLE, PEAR, EBONY, DEAL, FIR);
    for (int i = 0; i < 6; i++) {
      y.event(i, 0);
    }
    y.go(60);
    for (int p = 0; p < 7; p++) {
      due.is("tone 0 at least, kind " + p, y.of(p, 3), 0);
    }
  }

  private static void aheadOfTheThree() {
    due.by("each by all as it was ahead of the three");
    ListenWood x = Due.withKinds(FIR, FIR);
    x.change(1, 3, 50);
    for (int i = 0; i < 6; i++) {
      x.event(i, 100 * (i % 2 == 0 ? 0 : 1) + 10);
    }
    x.go(1);
    due.is("its tone was 0, so it cracks", x.of(0, 4), 1);
    due.is("its tone isn't 0 any more", x.of(0, 3), 2);
    due.is("its tone was 50, so it doesn't", x.of(1, 4), 0);
    due.is("its tone is less", x.of(1, 3), 42);
    x.go(1);
    due.is("nor does the first again", x.of(0, 4), 1);
  }

  private static void makersTake() {
    due.by("(3) If YEAR is a multiple of EACH, the makers come: PLANKS by numbers: one that RINGS is "
        + "TAKEN: GOLD is what it FETCHES more (99999 at most), TAKEN 1 more (9999 at most); GRAIN, TONE, "
        + "CRACKS, AGE are 0 then (another one stands there).");
    ListenWood x = new ListenWood();
    x.plank(EBONY, 2);
    x.plank(EBONY, 2);
    x.plank(PLANK, 3);
    x.plank(PLANK, 3);
    x.change(0, 5, 39);
    x.change(1, 5, 38);
    x.change(2, 2, 97);
    x.change(2, 4, 1);
    x.change(3, 2, 96);
    x.change(3, 6, 8);
    // The makers of year 0 see them as the year has made them.
    due.is("gold of year 0", x.go(1), 30 + 10 + 5 - 5);
    int[][] wanted = {{4, 2, 0, 0, 0, 0, 1}, {4, 2, 1, 0, 0, 39, 0}, {0, 3, 0, 0, 0, 0, 1},
        {0, 3, 99, 5, 0, 1, 8}};
    for (int p = 0; p < 4; p++) {
      for (int what = 0; what < 7; what++) {
        due.is("plank " + p + ", what " + what, x.of(p, what), wanted[p][what]);
      }
    }
    // They ring for years, but no makers come ahead of year 30.
    due.is("gold up to year 29", x.go(29), 40);
    due.is("year 30", x.now(0), 30);
    due.is("makers in 30", x.now(7), 1);
    due.is("two ring", x.now(2), 2 + 8);
    // Year 30: the ebony with grain 31, the plank with grain 99 + 90 and tone 41.
    due.is("gold of year 30", x.go(1), 40 + 39 + 18 + 41);
    due.is("all taken", x.now(6), 1 + 1 + 1 + 9);
    due.is("none rings", x.now(2), 0);
    due.is("none in year 31", x.now(7), 0);
  }

  private static void takenIsHeld() {
    due.by("TAKEN 1 more (9999 at most)");
    ListenWood x = Due.withKinds(PLANK, PLANK, PLANK);
    for (int p = 0; p < 3; p++) {
      x.change(p, 2, 200);
      x.change(p, 6, 9997 + p);
    }
    due.is("gold", x.go(1), 3 * 25);
    due.is("9997", x.of(0, 6), 9998);
    due.is("9998", x.of(1, 6), 9999);
    due.is("9999", x.of(2, 6), 9999);
    due.is("it was taken all the same", x.of(2, 2), 0);
  }

  private static void yearIsOneMore() {
    due.by("YEAR is one more (99999 at most).");
    ListenWood x = new ListenWood();
    for (int year = 0; year < 70; year++) {
      due.is("now", x.now(0), year);
      due.is("count", x.count(0), year);
      x.go(1);
    }
    x.go(60);
    due.is("sixty more", x.now(0), 130);
    x.feuds(20);
    due.is("twenty more", x.now(0), 150);
  }

  /** The next z as a number without a sign, by longs alone. */
  private static long next(long z) {
    return (z * 1103515245L + 12345L) & 0xffffffffL;
  }

  private static void draws() {
    due.by("DRAWS: z is told (1 at first); each makes it z * 1103515245 + 12345 (an int), and gives z >>> "
        + "8.");
    due.is("at first", new ListenWood().count(6), 1);
    int[] seeds = {1, 0, -1, 2, Integer.MIN_VALUE, Integer.MAX_VALUE, -2000000000, 2000000000, -77, 4711};
    for (int seed : seeds) {
      long first = next(seed & 0xffffffffL);
      long second = next(first);
      long third = next(second);
      int h = (int) ((first >> 8) % 6);
      int p = (int) ((third >> 8) % 8);
      ListenWood x = Due.withKinds(4, 4, 4, 4, 4, 4, 4, 4);
      x.event(0, 100 * ((h + 1) % 6));
      x.seed(seed);
      x.feuds(1);
      due.is("z from " + seed, x.count(6), (int) third);
      due.is("mood from " + seed, x.houseOf(h, 1), 25);
      due.is("loud from " + seed, x.houseOf(h, 0), (second >> 8) % 10);
      due.is("plank from " + seed, x.houseOf(1, 2), 1 << p);
      due.is("others from " + seed, x.houseOf(0, 2), 255 - (1 << p));
    }
  }

  private static void spots() {
    due.by("SPOTS 0 to 9 hold a PLANK or nothing (at first).");
    ListenWood x = Due.withKinds(0, 0, 0, 0, 0, 0, 0, 0);
    for (int spot = 0; spot < 10; spot++) {
      due.is("nothing at first", x.as(spot, 0), Due.MISSING);
      due.is("count", x.count(7), spot);
      due.is("hold", x.hold(spot, spot % 8), 1);
      due.is("it holds", x.as(spot, 0), spot % 8);
    }
    due.is("ten", x.count(7), 10);
    due.is("spot 10", x.hold(10, 0), Due.BEYOND);
    due.is("spot -1", x.hold(-1, 0), Due.BEYOND);
  }

  private static void sheets() {
    due.by("SHEETS 0 to 3: rows of at most 40 numbers of 8, 16 or 32 bits (told with their sign: of 8 bits "
        + "255 is -1), or MISSING (at first).");
    ListenWood x = new ListenWood();
    for (int s = 0; s < 4; s++) {
      due.is("missing at first", x.load(s), Due.MISSING);
      for (int bits : new int[] {8, 16, 32}) {
        due.is("40", x.sheet(s, bits, 40), 40);
        due.is("number 39", x.write(s, 39, 1), 1);
        due.is("number 40", x.write(s, 40, 1), Due.BEYOND);
        due.is("0", x.sheet(s, bits, 0), 0);
        due.is("number 0 of none", x.write(s, 0, 1), Due.BEYOND);
        due.is("it isn't missing", x.judge(s), 0);
      }
      due.is("41", x.sheet(s, 8, 41), Due.BEYOND);
      due.is("goes", x.sheet(s, 0, 0), 0);
      due.is("missing again", x.load(s), Due.MISSING);
    }
    due.is("sheet 4", x.sheet(4, 8, 1), Due.BEYOND);
    due.is("sheet -1", x.sheet(-1, 8, 1), Due.BEYOND);
  }

  /** Whether a number that is written so is told as that much: 0 to 999, or -1 (any). */
  private static int isTold(int bits, int written, int told) {
    ListenWood x = Due.withKinds(PLANK);
    x.sheet(0, bits, 1);
    x.write(0, 0, written);
    x.change(0, 2, Math.max(0, told));
    boolean isSo = x.fits(0, 0) == 63;
    x.change(0, 2, told < 500 ? 998 : 3);
    return isSo && (told == -1 ? x.fits(0, 0) == 63 : x.fits(0, 0) == 0) ? 1 : 0;
  }

  private static void signs() {
    due.by("told with their sign: of 8 bits 255 is -1");
    due.is("8 bits, 255", isTold(8, 255, -1), 1);
    due.is("8 bits, -1", isTold(8, -1, -1), 1);
    due.is("8 bits, 127", isTold(8, 127, 127), 1);
    due.is("8 bits, 128", isTold(8, 128, 128), 0);
    due.is("8 bits, 254", isTold(8, 254, 254), 0);
    due.is("8 bits, 254 isn't -1", isTold(8, 254, -1), 0);
    due.is("8 bits, 256", isTold(8, 256, 0), 1);
    due.is("8 bits, 511", isTold(8, 511, -1), 1);
    due.is("8 bits, -129", isTold(8, -129, 127), 1);
    due.is("8 bits, -256", isTold(8, -256, 0), 1);
    due.is("16 bits, 255", isTold(16, 255, 255), 1);
    due.is("16 bits, 999", isTold(16, 999, 999), 1);
    due.is("16 bits, 65535", isTold(16, 65535, -1), 1);
    due.is("16 bits, 65536", isTold(16, 65536, 0), 1);
    due.is("16 bits, 65536 and 999", isTold(16, 66535, 999), 1);
    due.is("16 bits, -65537", isTold(16, -65537, -1), 1);
    due.is("32 bits, 999", isTold(32, 999, 999), 1);
    due.is("32 bits, -1", isTold(32, -1, -1), 1);
    due.is("32 bits, 65535", isTold(32, 65535, -1), 0);
    due.is("32 bits, 65536", isTold(32, 65536, 0), 0);
    due.is("32 bits, the most", isTold(32, Integer.MAX_VALUE, -1), 0);
    due.is("32 bits, the least", isTold(32, Integer.MIN_VALUE, 0), 0);
  }
}
