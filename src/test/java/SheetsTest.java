/** Promises 30 to 36: spots and sheets. */
public final class SheetsTest {
  private static final Due due = new Due();

  public static void main(String[] args) {
    hold();
    as();
    sheet();
    write();
    copy();
    copyWithin();
    load();
    judge();
    due.end();
  }

  private static void hold() {
    ListenWood x = new ListenWood();
    due.is("30: no plank", x.hold(0, 0), Due.BEYOND);
    due.is("30: nothing", x.hold(0, -1), 1);
    x.plank(0, 0);
    due.is("30: spot -1", x.hold(-1, 0), Due.BEYOND);
    due.is("30: spot 10", x.hold(10, 0), Due.BEYOND);
    due.is("30: plank -2", x.hold(0, -2), Due.BEYOND);
    due.is("30: plank 1", x.hold(0, 1), Due.BEYOND);
    due.is("30: spot 9", x.hold(9, 0), 1);
    due.is("30: spot 0", x.hold(0, 0), 1);
    due.is("30: two", x.count(7), 2);
    due.is("30: nothing again", x.hold(9, -1), 1);
    due.is("30: one", x.count(7), 1);
  }

  private static void as() {
    ListenWood x = new ListenWood();
    for (int kind = 0; kind < 7; kind++) {
      x.plank(kind, 0);
      x.hold(kind, kind);
    }
    // By kind: the kinds that it is of.
    int[] kindsOf = {1, 1 | 2, 1 | 4, 1 | 4 | 8, 1 | 4 | 8 | 16, 1 | 32, 1 | 2 | 64};
    for (int plank = 0; plank < 7; plank++) {
      for (int kind = 0; kind < 7; kind++) {
        boolean is = (kindsOf[plank] >> kind & 1) == 1;
        due.is("31: " + plank + " as " + kind, x.as(plank, kind), is ? plank : Due.KIND);
      }
    }
    due.is("31: spot -1", x.as(-1, 0), Due.BEYOND);
    due.is("31: spot 10", x.as(10, 0), Due.BEYOND);
    due.is("31: kind -1", x.as(0, -1), Due.BEYOND);
    due.is("31: kind 7", x.as(9, 7), Due.BEYOND);
    due.is("31: holds nothing", x.as(9, 0), Due.MISSING);
    x.change(5, 0, 4);
    due.is("31: as what it is now", x.as(5, 3), 5);
    x.hold(5, 6);
    due.is("31: what it holds now", x.as(5, 1), 6);
  }

  private static void sheet() {
    ListenWood x = new ListenWood();
    due.is("32: sheet -1", x.sheet(-1, 8, -1), Due.BEYOND);
    due.is("32: sheet 4", x.sheet(4, 8, 1), Due.BEYOND);
    due.is("32: bits 7", x.sheet(0, 7, -1), Due.BEYOND);
    due.is("32: bits 64", x.sheet(0, 64, 1), Due.BEYOND);
    due.is("32: bits -8", x.sheet(0, -8, 1), Due.BEYOND);
    due.is("32: n -1", x.sheet(0, 8, -1), Due.SIZE);
    due.is("32: n -1, bits 0", x.sheet(0, 0, -1), Due.SIZE);
    due.is("32: n 41", x.sheet(0, 8, 41), Due.BEYOND);
    due.is("32: n 41, bits 0", x.sheet(0, 0, 41), Due.BEYOND);
    due.is("32: still missing", x.write(0, 0, 0), Due.MISSING);
    due.is("32: 40", x.sheet(0, 32, 40), 40);
    x.write(0, 3, 5);
    due.is("32: it isn't all 0", x.load(0), 6);
    due.is("32: mood 3", x.houseOf(3, 1), 5);
    due.is("32: anew", x.sheet(0, 32, 40), 40);
    x.load(0);
    due.is("32: all 0", x.houseOf(3, 1), 0);
    due.is("32: 0", x.sheet(0, 16, 0), 0);
    due.is("32: there, but empty", x.load(0), 0);
    due.is("32: torn", x.sheet(0, 0, 40), 0);
    due.is("32: missing", x.load(0), Due.MISSING);
  }

  private static void write() {
    ListenWood x = new ListenWood();
    due.is("33: sheet -1", x.write(-1, 0, 0), Due.BEYOND);
    due.is("33: sheet 4", x.write(4, 0, 0), Due.BEYOND);
    due.is("33: missing", x.write(0, -1, 0), Due.MISSING);
    x.sheet(0, 8, 2);
    due.is("33: number -1", x.write(0, -1, 0), Due.BEYOND);
    due.is("33: number 2", x.write(0, 2, 0), Due.BEYOND);
    x.plank(0, 0);
    x.change(0, 3, 77);
    x.sheet(0, 8, 1);
    due.is("33: lowest bits of 8", x.write(0, 0, 256 * 99 + 77), 1);
    due.is("33: so it is 77", x.judge(0), 0);
    x.write(0, 0, 255);
    due.is("33: 255 is -1", x.kinds(0, 0), 127);
    x.write(0, 0, 128);
    due.is("33: 128 is -128", x.load(0), 0);
    x.sheet(1, 16, 1);
    x.write(1, 0, 65536 * 3 + 77);
    due.is("33: lowest bits of 16", x.judge(1), 0);
    x.write(1, 0, 65535);
    due.is("33: 65535 is -1", x.kinds(1, 0), 127);
    x.write(1, 0, 255);
    due.is("33: 255 isn't", x.kinds(1, 0), 0);
    x.sheet(2, 32, 1);
    x.write(2, 0, 65536 + 77);
    due.is("33: all of 32", x.judge(2), 1);
    x.write(2, 0, 65535);
    due.is("33: 65535 of 32 isn't -1", x.kinds(2, 0), 0);
    x.write(2, 0, -1);
    due.is("33: -1 is", x.kinds(2, 0), 127);
  }

  private static void copy() {
    ListenWood x = new ListenWood();
    due.is("34: sheet -1", x.copy(-1, 0, 0, 0, 0), Due.BEYOND);
    due.is("34: sheet 4", x.copy(0, 0, 4, 0, 0), Due.BEYOND);
    x.sheet(0, 8, 6);
    due.is("34: the second is missing", x.copy(0, 0, 1, 0, -1), Due.MISSING);
    due.is("34: the first is missing", x.copy(1, 0, 0, 0, -1), Due.MISSING);
    x.sheet(1, 16, 6);
    due.is("34: other bits", x.copy(0, 0, 1, 0, -1), Due.KIND);
    x.sheet(1, 8, 3);
    due.is("34: n -1", x.copy(0, 0, 1, 0, -1), Due.BEYOND);
    due.is("34: from -1", x.copy(0, -1, 1, 0, 1), Due.BEYOND);
    due.is("34: to -1", x.copy(0, 0, 1, -1, 1), Due.BEYOND);
    due.is("34: not so many there", x.copy(0, 0, 1, 0, 4), Due.BEYOND);
    due.is("34: not so many here", x.copy(1, 0, 0, 0, 4), Due.BEYOND);
    due.is("34: from the end", x.copy(0, 5, 1, 0, 2), Due.BEYOND);
    due.is("34: to the end", x.copy(0, 0, 1, 2, 2), Due.BEYOND);
    due.is("34: from far", x.copy(0, Integer.MAX_VALUE, 1, 0, 3), Due.BEYOND);
    due.is("34: far", x.copy(0, 1, 1, 1, Integer.MAX_VALUE), Due.BEYOND);
    due.is("34: none", x.copy(0, 6, 1, 3, 0), 0);
    due.is("34: none from behind the end", x.copy(0, 7, 1, 0, 0), Due.BEYOND);
    for (int i = 0; i < 6; i++) {
      x.write(0, i, 10 + i);
    }
    due.is("34: two", x.copy(0, 3, 1, 1, 2), 2);
    moods(x, 1, 0, 13, 14);
    due.is("34: all", x.copy(0, 0, 1, 0, 3), 3);
    moods(x, 1, 10, 11, 12);
  }

  private static void copyWithin() {
    ListenWood x = new ListenWood();
    x.sheet(2, 32, 6);
    for (int i = 0; i < 6; i++) {
      x.write(2, i, i + 1);
    }
    due.is("34: up", x.copy(2, 0, 2, 1, 5), 5);
    moods(x, 2, 1, 1, 2, 3, 4, 5);
    due.is("34: down", x.copy(2, 2, 2, 1, 4), 4);
    moods(x, 2, 1, 2, 3, 4, 5, 5);
  }

  /** The numbers of a sheet, told by the moods that they become. */
  private static void moods(ListenWood x, int s, int... wanted) {
    due.is("35: came", x.load(s), wanted.length);
    for (int h = 0; h < wanted.length; h++) {
      due.is("35: mood of house " + h, x.houseOf(h, 1), wanted[h]);
    }
  }

  private static void load() {
    ListenWood x = new ListenWood();
    due.is("35: sheet -1", x.load(-1), Due.BEYOND);
    due.is("35: sheet 4", x.load(4), Due.BEYOND);
    due.is("35: missing", x.load(0), Due.MISSING);
    Due.sheet(x, 0, 0, 99, 100, 7);
    due.is("35: up to 100", x.load(0), 2);
    due.is("35: mood 0", x.houseOf(0, 1), 0);
    due.is("35: mood 1", x.houseOf(1, 1), 99);
    due.is("35: mood 2 stays", x.houseOf(2, 1), 50);
    due.is("35: mood 3 stays", x.houseOf(3, 1), 50);
    Due.sheet(x, 0, 4, -1);
    due.is("35: up to -1", x.load(0), 1);
    Due.sheet(x, 0, 1, 2, 3, 4, 5, 6, 7);
    due.is("35: six", x.load(0), 6);
    due.is("35: mood 5", x.houseOf(5, 1), 6);
  }

  private static void judge() {
    ListenWood x = new ListenWood();
    due.is("36: sheet -1", x.judge(-1), Due.BEYOND);
    due.is("36: sheet 4", x.judge(4), Due.BEYOND);
    due.is("36: missing", x.judge(0), Due.MISSING);
    Due.sheet(x, 0);
    due.is("36: empty", x.judge(0), 0);
    Due.sheet(x, 0, 0);
    due.is("36: no plank", x.judge(0), 1);
    x.plank(0, 0);
    x.plank(0, 0);
    x.change(1, 3, 9);
    due.is("36: so", x.judge(0), 0);
    Due.sheet(x, 0, 0, 9);
    due.is("36: both so", x.judge(0), 0);
    Due.sheet(x, 0, 0, 8);
    due.is("36: the second isn't", x.judge(0), 2);
    Due.sheet(x, 0, 0, 9, 0);
    due.is("36: there is no third", x.judge(0), 3);
    Due.sheet(x, 0, -1, 9);
    due.is("36: -1 isn't any", x.judge(0), 1);
  }
}
