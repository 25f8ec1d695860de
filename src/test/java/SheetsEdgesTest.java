/** The sentences of promises 30 to 41 that name a boundary: spots, sheets, images, counts. */
public final class SheetsEdgesTest {
  private static final Due due = new Due();
  private static final Twins some = new Twins(due, Twins::furnished);

  public static void main(String[] args) {
    hold();
    as();
    asOfUndone();
    sheet();
    sheetIsAll0();
    sheetGoes();
    write();
    copy();
    copyAsTheyWere();
    copyOfForty();
    load();
    loadEnds();
    judge();
    judgeOfForty();
    image();
    undo();
    tear();
    count();
    statusOfEach();
    statusCountsItself();
    statusStays();
    onlyTelling();
    due.end();
  }

  private static void hold() {
    due.by("A SPOT holds a PLANK, or nothing (-1): 1. BEYOND.");
    ListenWood x = new ListenWood();
    due.is("nothing, none there", x.hold(0, -1), 1);
    due.is("plank 0, none there", x.hold(0, 0), Due.BEYOND);
    for (int p = 0; p < 8; p++) {
      x.plank(0, 0);
    }
    for (int spot = 0; spot < 10; spot += 9) {
      due.is("the first", x.hold(spot, 0), 1);
      due.is("holds the first", x.as(spot, 0), 0);
      due.is("the last", x.hold(spot, 7), 1);
      due.is("holds the last", x.as(spot, 0), 7);
      due.is("the next", x.hold(spot, 8), Due.BEYOND);
      due.is("below nothing", x.hold(spot, -2), Due.BEYOND);
      due.is("still the last", x.as(spot, 0), 7);
      due.is("nothing", x.hold(spot, -1), 1);
      due.is("holds nothing", x.as(spot, 0), Due.MISSING);
    }
    due.is("two may hold one", x.hold(0, 7) + x.hold(9, 7), 2);
    due.is("two", x.count(7), 2);
    due.is("spot 10", x.hold(10, 0), Due.BEYOND);
    due.is("spot -1", x.hold(-1, 0), Due.BEYOND);
  }

  private static void as() {
    due.by("What a SPOT holds as one of a kind (0 to 6): the number of the PLANK. BEYOND. MISSING: it "
        + "holds nothing. KIND: it isn't of that kind, nor of one under it.");
    // By its kind: the kinds as one of which it is told.
    String[] kinds = {"0", "01", "02", "023", "0234", "05", "016"};
    ListenWood x = Due.withKinds(0, 1, 2, 3, 4, 5, 6, 0);
    x.hold(9, 7);
    for (int kind = 0; kind < 7; kind++) {
      x.change(7, 0, kind);
      for (int asked = 0; asked < 7; asked++) {
        boolean is = kinds[kind].indexOf('0' + asked) >= 0;
        due.is(kind + " as " + asked, x.as(9, asked), is ? 7 : Due.KIND);
      }
    }
    due.is("kind 7", x.as(9, 7), Due.BEYOND);
    due.is("kind -1", x.as(9, -1), Due.BEYOND);
    due.is("spot 10", x.as(10, 0), Due.BEYOND);
    due.is("spot -1", x.as(-1, 0), Due.BEYOND);
    due.is("nothing", x.as(0, 0), Due.MISSING);
  }

  private static void asOfUndone() {
    due.by("All but THE TAPE and SHEETS is kept: 1.");
    ListenWood x = new ListenWood();
    x.image();
    x.plank(0, 0);
    x.hold(5, 0);
    x.undo();
    due.is("it holds nothing", x.as(5, 0), Due.MISSING);
    x.plank(6, 0);
    due.is("nor the next", x.as(5, 0), Due.MISSING);
    due.is("none", x.count(7), 0);
  }

  private static void sheet() {
    due.by("A sheet has n numbers, all 0, of 8, 16 or 32 bits; bits 0: it is MISSING: n (0 if it is "
        + "MISSING). BEYOND: no such sheet, other bits. SIZE: n is below 0 (also with bits 0). BEYOND: n "
        + "is above 40 (also with bits 0).");
    ListenWood x = new ListenWood();
    for (int s = 0; s < 4; s += 3) {
      for (int bits : new int[] {8, 16, 32}) {
        due.is("0", x.sheet(s, bits, 0), 0);
        due.is("1", x.sheet(s, bits, 1), 1);
        due.is("40", x.sheet(s, bits, 40), 40);
        due.is("41", x.sheet(s, bits, 41), Due.BEYOND);
        due.is("-1", x.sheet(s, bits, -1), Due.SIZE);
        due.is("40 still", x.copy(s, 0, s, 0, 40), 40);
        due.is("41 not", x.copy(s, 0, s, 0, 41), Due.BEYOND);
        due.is("of none, 40", x.sheet(s, 0, 40), 0);
        due.is("of none, 0", x.sheet(s, 0, 0), 0);
        due.is("of none, 41", x.sheet(s, 0, 41), Due.BEYOND);
        due.is("of none, -1", x.sheet(s, 0, -1), Due.SIZE);
        due.is("missing", x.judge(s), Due.MISSING);
        due.is("bits beside", x.sheet(s, bits + 1, 1), Due.BEYOND);
        due.is("bits beside", x.sheet(s, bits - 1, 1), Due.BEYOND);
      }
    }
    for (int bits : new int[] {1, -1, -8, 24, 64}) {
      due.is("bits " + bits, x.sheet(0, bits, 1), Due.BEYOND);
    }
    due.is("sheet 4", x.sheet(4, 8, 1), Due.BEYOND);
    due.is("sheet -1", x.sheet(-1, 8, 1), Due.BEYOND);
  }

  private static void sheetIsAll0() {
    due.by("A sheet has n numbers, all 0, of 8, 16 or 32 bits;");
    ListenWood x = new ListenWood();
    for (int bits : new int[] {8, 16, 32}) {
      x.sheet(0, bits, 40);
      for (int i = 0; i < 40; i++) {
        x.write(0, i, 9);
      }
      x.sheet(0, bits, 3);
      x.sheet(0, bits, 40);
      for (int from = 0; from < 40; from += 6) {
        int n = Math.min(6, 40 - from);
        x.sheet(1, bits, n);
        x.copy(0, from, 1, 0, n);
        due.is("all come", x.load(1), n);
        for (int h = 0; h < n; h++) {
          due.is("number " + (from + h), x.house(h, 1, 50), 0);
        }
      }
    }
  }

  private static void sheetGoes() {
    due.by("bits 0: it is MISSING: n (0 if it is MISSING).");
    ListenWood x = Due.withKinds(0);
    x.sheet(2, 8, 5);
    due.is("goes", x.sheet(2, 0, 5), 0);
    due.is("write", x.write(2, 0, 1), Due.MISSING);
    due.is("copy from", x.copy(2, 0, 2, 0, 0), Due.MISSING);
    due.is("load", x.load(2), Due.MISSING);
    due.is("judge", x.judge(2), Due.MISSING);
    due.is("fits", x.fits(2, 0), Due.MISSING);
    due.is("kinds", x.kinds(2, 0), Due.MISSING);
    due.is("goes again", x.sheet(2, 0, 0), 0);
    // One of no numbers isn't missing.
    due.is("none", x.sheet(2, 8, 0), 0);
    due.is("write to none", x.write(2, 0, 1), Due.BEYOND);
    due.is("copy of none", x.copy(2, 0, 2, 0, 0), 0);
    due.is("load none", x.load(2), 0);
    due.is("judge none", x.judge(2), 0);
    due.is("fits none", x.fits(2, 0), 63);
    due.is("kinds none", x.kinds(2, 0), 127);
  }

  private static void write() {
    due.by("Number i of a sheet becomes v (its lowest bits): 1. BEYOND: no such sheet. MISSING. BEYOND: no "
        + "such number.");
    ListenWood x = new ListenWood();
    for (int s = 0; s < 4; s += 3) {
      due.is("missing", x.write(s, 0, 5), Due.MISSING);
      x.sheet(s, 8, 6);
      due.is("the first", x.write(s, 0, 5), 1);
      due.is("the last", x.write(s, 5, 7), 1);
      due.is("one behind", x.write(s, 6, 9), Due.BEYOND);
      due.is("one ahead", x.write(s, -1, 9), Due.BEYOND);
      moods(x, s, 5, 0, 0, 0, 0, 7);
      x.write(s, 0, 256 + 99);
      x.write(s, 1, -256 + 98);
      x.write(s, 2, 0x7fffff00);
      moods(x, s, 99, 98, 0, 0, 0, 7);
      x.sheet(s, 16, 3);
      x.write(s, 0, 65536 + 99);
      x.write(s, 1, -65536 + 98);
      x.write(s, 2, 0x7fff0000);
      moods(x, s, 99, 98, 0);
      x.sheet(s, 16, 3);
      x.write(s, 1, 256 + 99);
      moods(x, s, 0);
      x.sheet(s, 32, 3);
      x.write(s, 1, 65536 + 99);
      moods(x, s, 0);
    }
    due.is("sheet 4", x.write(4, 0, 5), Due.BEYOND);
    due.is("sheet -1", x.write(-1, 0, 5), Due.BEYOND);
  }

  /** The numbers of a sheet up to one that is no mood, told by the moods that they become. */
  private static void moods(ListenWood x, int s, int... wanted) {
    due.is("came", x.load(s), wanted.length);
    for (int h = 0; h < wanted.length; h++) {
      due.is("mood of " + h, x.houseOf(h, 1), wanted[h]);
    }
  }

  private static ListenWood counted() {
    ListenWood x = new ListenWood();
    x.sheet(0, 8, 6);
    x.sheet(3, 8, 4);
    for (int i = 0; i < 6; i++) {
      x.write(0, i, 11 + i);
      x.write(3, i, 91 + i);
    }
    return x;
  }

  private static void copy() {
    due.by("n numbers of a sheet from one on come to another one from one on (as they all were): n. "
        + "BEYOND: no such sheet (either). MISSING: one is. KIND: they are not of as many bits. BEYOND: "
        + "one has not so many, or from, to or n is below 0.");
    ListenWood x = counted();
    due.is("none", x.copy(0, 0, 3, 0, 0), 0);
    due.is("none from the end", x.copy(0, 6, 3, 0, 0), 0);
    due.is("none to the end", x.copy(0, 0, 3, 4, 0), 0);
    due.is("none from behind it", x.copy(0, 7, 3, 0, 0), Due.BEYOND);
    due.is("none to behind it", x.copy(0, 0, 3, 5, 0), Due.BEYOND);
    moods(x, 3, 91, 92, 93, 94);
    due.is("the last to the first", x.copy(0, 5, 3, 0, 1), 1);
    moods(x, 3, 16, 92, 93, 94);
    due.is("the first to the last", x.copy(0, 0, 3, 3, 1), 1);
    moods(x, 3, 16, 92, 93, 11);
    due.is("all that there's room for", x.copy(0, 2, 3, 0, 4), 4);
    moods(x, 3, 13, 14, 15, 16);
    due.is("from one too far", x.copy(0, 3, 3, 0, 4), Due.BEYOND);
    due.is("to one too far", x.copy(0, 2, 3, 1, 4), Due.BEYOND);
    due.is("one too many here", x.copy(3, 0, 0, 0, 5), Due.BEYOND);
    due.is("one too many there", x.copy(0, 0, 3, 0, 5), Due.BEYOND);
    due.is("from -1", x.copy(0, -1, 3, 0, 1), Due.BEYOND);
    due.is("to -1", x.copy(0, 0, 3, -1, 1), Due.BEYOND);
    due.is("n -1", x.copy(0, 0, 3, 0, -1), Due.BEYOND);
    moods(x, 3, 13, 14, 15, 16);
    due.is("the whole back", x.copy(3, 0, 0, 2, 4), 4);
    moods(x, 0, 11, 12, 13, 14, 15, 16);
  }

  private static void copyAsTheyWere() {
    due.by("n numbers of a sheet from one on come to another one from one on (as they all were): n.");
    ListenWood x = counted();
    due.is("one on", x.copy(0, 0, 0, 1, 5), 5);
    moods(x, 0, 11, 11, 12, 13, 14, 15);
    due.is("one back", x.copy(0, 1, 0, 0, 5), 5);
    moods(x, 0, 11, 12, 13, 14, 15, 15);
    due.is("onto itself", x.copy(0, 0, 0, 0, 6), 6);
    moods(x, 0, 11, 12, 13, 14, 15, 15);
    due.is("three on", x.copy(0, 0, 0, 3, 3), 3);
    moods(x, 0, 11, 12, 13, 11, 12, 13);
  }

  private static void copyOfForty() {
    due.by("n numbers of a sheet from one on come to another one from one on (as they all were): n.");
    ListenWood x = new ListenWood();
    for (int bits : new int[] {8, 16, 32}) {
      x.sheet(1, bits, 40);
      x.sheet(2, bits, 40);
      for (int i = 0; i < 40; i++) {
        x.write(1, i, i);
      }
      due.is("forty", x.copy(1, 0, 2, 0, 40), 40);
      due.is("forty-one", x.copy(1, 0, 2, 0, 41), Due.BEYOND);
      due.is("the last to the first", x.copy(2, 39, 2, 0, 1), 1);
      due.is("those ahead of it", x.copy(2, 35, 2, 1, 5), 5);
      moods(x, 2, 39, 35, 36, 37, 38, 39);
      int other = bits == 8 ? 16 : 8;
      x.sheet(2, other, 40);
      due.is("of other bits", x.copy(1, 0, 2, 0, 40), Due.KIND);
    }
  }

  private static void load() {
    due.by("Numbers of a sheet, from its begin on, become MOODS of HOUSES 0, 1, ..: how many came.");
    ListenWood x = new ListenWood();
    for (int n = 0; n <= 6; n++) {
      for (int h = 0; h < 6; h++) {
        x.house(h, 1, 70 + h);
      }
      x.sheet(3, 8, n);
      for (int i = 0; i < n; i++) {
        x.write(3, i, i == 0 ? 0 : 100 - i);
      }
      due.is("as many as there are", x.load(3), n);
      for (int h = 0; h < 6; h++) {
        due.is("mood of " + h, x.houseOf(h, 1), h >= n ? 70 + h : h == 0 ? 0 : 100 - h);
        due.is("loud of " + h, x.houseOf(h, 0), 3);
      }
    }
  }

  private static void loadEnds() {
    due.by("It ends at the first that isn't 0 to 99, or for which there is no HOUSE. BEYOND: no such "
        + "sheet. MISSING.");
    ListenWood x = new ListenWood();
    Due.sheet(x, 0, 0, 99, 0, 99, 0, 99, 77, 78);
    due.is("six of eight", x.load(0), 6);
    due.is("the last house", x.houseOf(5, 1), 99);
    Due.sheet(x, 0, 0, 99, 0, 99, 0, 99, 100);
    due.is("six, and one that isn't", x.load(0), 6);
    for (int wrong : new int[] {100, -1, 999, -32768, 32767}) {
      for (int place = 0; place < 6; place++) {
        for (int h = 0; h < 6; h++) {
          x.house(h, 1, 50);
        }
        x.write(0, place, wrong);
        due.is("up to " + wrong, x.load(0), place);
        due.is("that house", x.houseOf(place, 1), 50);
        due.is("the last house", x.houseOf(5, 1), 50);
        x.write(0, place, 0);
      }
    }
    due.is("it is no finding", x.status(-1), 0);
    due.is("sheet 4", x.load(4), Due.BEYOND);
    due.is("sheet -1", x.load(-1), Due.BEYOND);
    due.is("sheet 3", x.load(3), Due.MISSING);
  }

  private static void judge() {
    due.by("THE READER: numbers of a sheet are TONES of PLANKS 0, 1, ..: 0 if so; else 1 and the place of "
        + "the first that isn't so. BEYOND: no such sheet. MISSING.");
    ListenWood x = Due.withKinds(0, 0, 0, 0, 0, 0, 0, 0);
    x.sheet(3, 8, 8);
    for (int p = 0; p < 8; p++) {
      x.change(p, 3, p == 0 ? 99 : p - 1);
      x.write(3, p, p == 0 ? 99 : p - 1);
    }
    due.is("all so", x.judge(3), 0);
    x.write(3, 7, 7);
    due.is("the last isn't", x.judge(3), 8);
    x.write(3, 1, 1);
    due.is("nor the second", x.judge(3), 2);
    x.write(3, 0, 98);
    due.is("nor the first", x.judge(3), 1);
    x.sheet(3, 8, 0);
    due.is("none", x.judge(3), 0);
    x.sheet(3, 8, 1);
    due.is("one", x.judge(3), 1);
    x.write(3, 0, 99);
    due.is("fewer than planks", x.judge(3), 0);
    x.write(3, 0, -1);
    due.is("-1", x.judge(3), 1);
    due.is("sheet 4", x.judge(4), Due.BEYOND);
    due.is("sheet -1", x.judge(-1), Due.BEYOND);
    due.is("sheet 0", x.judge(0), Due.MISSING);
  }

  private static void judgeOfForty() {
    due.by("numbers of a sheet are TONES of PLANKS 0, 1, ..: 0 if so; else 1 and the place of the first "
        + "that isn't so.");
    ListenWood x = new ListenWood();
    x.sheet(0, 16, 40);
    for (int p = 0; p < 8; p++) {
      due.is("the first without a plank", x.judge(0), 1 + p);
      x.plank(0, 0);
    }
    due.is("a ninth there can't be", x.judge(0), 9);
    x.change(0, 3, 1);
    due.is("the first", x.judge(0), 1);
  }

  private static void image() {
    due.by("All but THE TAPE and SHEETS is kept: 1.");
    ListenWood x = Twins.furnished();
    ListenWood y = Twins.furnished();
    due.is("image", x.image(), 1);
    y.image();
    x.feuds(20);
    x.plank(0, 0);
    x.each(60);
    x.seed(1);
    for (int i = 0; i < 6; i++) {
      x.house(i, 0, 9 - x.houseOf(i, 0));
      x.house(i, 1, 99 - x.houseOf(i, 1));
      x.event(i, 599 - x.listed(i));
    }
    for (int p = 0; p < 5; p++) {
      for (int what = 0; what < 7; what++) {
        x.change(p, what, (x.of(p, what) + 1) % 6);
      }
    }
    for (int spot = 0; spot < 10; spot++) {
      x.hold(spot, spot % 2 == 0 ? 5 : -1);
    }
    due.is("undo", x.undo(), 3);
    due.is("alike", Twins.look(x).equals(Twins.look(y)) ? 1 : 0, 1);
    ListenWood z = Twins.furnished();
    z.image();
    z.sheet(0, 0, 0);
    z.sheet(3, 8, 2);
    z.write(1, 0, 5);
    int bytes = z.wipe();
    z.undo();
    due.is("there was a tape", bytes, 8);
    due.is("the tape isn't kept", z.count(5), 0);
    due.is("a sheet that went isn't kept", z.load(0), Due.MISSING);
    due.is("nor one that came", z.load(3), 2);
    due.is("nor what was written", z.load(1), 6);
    due.is("what was written", z.houseOf(0, 1), 5);
  }

  private static void undo() {
    due.by("It becomes what was kept latest (which stays): YEAR. NONE: nothing is kept.");
    ListenWood x = new ListenWood();
    due.is("nothing", x.undo(), Due.NONE);
    x.image();
    x.go(1);
    due.is("of year 0", x.undo(), 0);
    due.is("year", x.now(0), 0);
    x.go(60);
    x.image();
    x.go(5);
    due.is("the latest", x.undo(), 60);
    x.go(6);
    due.is("it stays", x.undo(), 60);
    due.is("and stays", x.undo(), 60);
    x.go(1);
    x.image();
    due.is("as it is", x.undo(), 61);
    x.tear();
    due.is("torn", x.undo(), Due.NONE);
    due.is("as it was", x.now(0), 61);
    x.image();
    due.is("kept anew", x.undo(), 61);
  }

  private static void tear() {
    due.by("Nothing is kept: 1 if something was, else 0.");
    ListenWood x = new ListenWood();
    due.is("nothing was", x.tear(), 0);
    x.image();
    due.is("something was", x.tear(), 1);
    due.is("nothing is", x.tear(), 0);
    x.image();
    x.image();
    x.undo();
    due.is("but one", x.tear(), 1);
    due.is("and no other", x.undo(), Due.NONE);
    due.is("no more", x.tear(), 0);
  }

  private static void count() {
    due.by("0 YEAR, 1 PLANKS, 2 GOLD, 3 GRAIN of all together, 4 TAKEN of all together, 5 bytes of THE "
        + "TAPE, 6 z, 7 SPOTS that hold something. BEYOND: another what.");
    ListenWood x = new ListenWood();
    for (int what = 0; what < 8; what++) {
      due.is("at first " + what, x.count(what), what == 6 ? 1 : 0);
    }
    for (int p = 0; p < 8; p++) {
      x.plank(0, 1);
      x.change(p, 2, 999);
      x.change(p, 6, 9999);
    }
    for (int spot = 0; spot < 10; spot++) {
      x.hold(spot, 7);
    }
    for (int i = 0; i < 30; i++) {
      x.feed(0, 4);
    }
    x.seed(Integer.MIN_VALUE);
    int[] wanted = {0, 8, 0, 8 * 999, 8 * 9999, 120, Integer.MIN_VALUE, 10};
    for (int what = 0; what < 8; what++) {
      due.is("at most " + what, x.count(what), wanted[what]);
    }
    due.is("8", x.count(8), Due.BEYOND);
    due.is("-1", x.count(-1), Due.BEYOND);
    x.go(1);
    int[] then = {1, 8, 8 * (99 + 5), 0, 8 * 9999, 120, Integer.MIN_VALUE, 10};
    for (int what = 0; what < 8; what++) {
      due.is("then " + what, x.count(what), then[what]);
    }
  }

  private static void statusOfEach() {
    due.by("How many acts answered a finding ever (undo() takes none back): which -1: all, 0 to 6: BEYOND "
        + "to SIZE.");
    ListenWood x = Due.withKinds(0, 0, 0, 0, 0, 0, 0, 0);
    x.hold(0, 0);
    int[] wanted = new int[7];
    for (int i = 0; i < 3; i++) {
      x.each(1);
      x.odds(0, 0, 0, 2);
      wanted[0] += 2;
      x.plank(0, 0);
      wanted[1]++;
      x.as(0, 6);
      wanted[2]++;
      x.undo();
      x.tuned(0, 99);
      wanted[3] += 2;
      x.load(0);
      wanted[5]++;
      x.sheet(0, 0, -1);
      wanted[6]++;
      int all = 0;
      for (int which = 0; which < 7; which++) {
        due.is("which " + which, x.status(which), wanted[which]);
        all += wanted[which];
      }
      due.is("all", x.status(-1), all);
    }
    // None of these is a finding.
    x.text();
    x.now(5);
    x.judge(x.sheet(1, 8, 1));
    x.seed(-1000002);
    x.seed(-1000003);
    x.count(6);
    due.is("no more", x.status(-1), 3 * 8);
  }

  private static void statusCountsItself() {
    due.by("BEYOND (counted from then on): another one.");
    ListenWood x = new ListenWood();
    due.is("-1", x.status(-1), 0);
    due.is("6", x.status(6), 0);
    due.is("7", x.status(7), Due.BEYOND);
    due.is("one", x.status(0), 1);
    due.is("-2", x.status(-2), Due.BEYOND);
    due.is("two", x.status(0), 2);
    due.is("all", x.status(-1), 2);
    due.is("no other", x.status(1) + x.status(2) + x.status(3) + x.status(4) + x.status(5) + x.status(6), 0);
  }

  private static void statusStays() {
    due.by("(undo() takes none back)");
    ListenWood x = new ListenWood();
    x.image();
    x.each(1);
    x.load(0);
    x.undo();
    due.is("beyond", x.status(0), 1);
    due.is("missing", x.status(5), 1);
    x.tear();
    x.undo();
    due.is("none", x.status(3), 1);
    due.is("all", x.status(-1), 3);
  }

  private static void onlyTelling() {
    due.by("Nothing is promised beyond the answers and state changes described above");
    for (int what = 0; what < 8; what++) {
      int w = what;
      some.onlyTells("40: what " + what, x -> x.count(w));
    }
    for (int which = -1; which < 7; which++) {
      int w = which;
      some.onlyTells("41: which " + which, x -> x.status(w));
    }
    for (int kind : new int[] {0, 1, 6}) {
      some.onlyTells("31: a fir as " + kind, x -> x.as(0, kind));
    }
    for (int s = 0; s < 3; s++) {
      int sheet = s;
      some.onlyTells("36: judge " + s, x -> x.judge(sheet));
    }
    some.told("34: none", 0, x -> x.copy(1, 12, 1, 0, 0));
    some.told("34: all onto itself", 12, x -> x.copy(1, 0, 1, 0, 12));
    Twins kept = new Twins(due, () -> {
      ListenWood x = Twins.furnished();
      x.image();
      return x;
    });
    kept.told("37: image again", 1, x -> x.image());
    kept.told("38: undo to what it is", 3, x -> x.undo());
  }
}
