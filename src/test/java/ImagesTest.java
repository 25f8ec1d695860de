/** Promises 37 to 41: images, counts, status. */
public final class ImagesTest {
  private static final Due due = new Due();

  public static void main(String[] args) {
    imageAndUndo();
    tapeAndSheetsStay();
    tear();
    count();
    status();
    statusOutlivesUndo();
    due.end();
  }

  private static ListenWood furnished() {
    ListenWood x = new ListenWood();
    for (int i = 0; i < 6; i++) {
      x.house(i, 0, i + 1);
      x.house(i, 1, i + 40);
      x.event(i, 100 * i + 60 + i);
    }
    x.each(4);
    x.plank(4, 2);
    x.plank(1, 3);
    for (int what = 2; what < 7; what++) {
      x.change(1, what, what);
    }
    x.change(0, 5, 50);
    x.seed(99);
    x.hold(3, 1);
    x.go(3);
    return x;
  }

  private static void disturb(ListenWood x) {
    x.feuds(20);
    x.plank(0, 0);
    x.each(9);
    x.hold(3, -1);
    x.hold(4, 2);
    for (int i = 0; i < 6; i++) {
      x.house(i, 0, 0);
      x.house(i, 1, 0);
      x.event(i, 0);
    }
    for (int what = 0; what < 7; what++) {
      x.change(1, what, 1);
    }
  }

  private static void same(String call, ListenWood x, ListenWood y) {
    for (int what = 0; what < 8; what++) {
      if (what != 5) {
        due.is(call + ": count " + what, x.count(what), y.count(what));
      }
      due.is(call + ": now " + what, x.now(what), y.now(what));
    }
    for (int i = 0; i < 6; i++) {
      due.is(call + ": listed", x.listed(i), y.listed(i));
      for (int what = 0; what < 3; what++) {
        due.is(call + ": house", x.houseOf(i, what), y.houseOf(i, what));
      }
    }
    for (int p = 0; p < x.count(1); p++) {
      for (int what = 0; what < 12; what++) {
        due.is(call + ": plank", x.of(p, what), y.of(p, what));
      }
    }
    due.is(call + ": spot 3", x.as(3, 0), y.as(3, 0));
    due.is(call + ": spot 4", x.as(4, 0), y.as(4, 0));
  }

  private static void imageAndUndo() {
    ListenWood x = furnished();
    ListenWood y = furnished();
    due.is("38: nothing kept", x.undo(), Due.NONE);
    due.is("37: image", x.image(), 1);
    disturb(x);
    due.is("38: undo", x.undo(), 3);
    same("38: undone", x, y);
    due.is("38: each", x.each(5), 4);
    disturb(x);
    due.is("38: it stays", x.undo(), 3);
    same("38: undone again", x, y);
    due.is("38: each again", x.each(5), 4);
    x.undo();
    x.go(7);
    y.go(7);
    due.is("37: a later image", x.image(), 1);
    disturb(x);
    due.is("38: the latest", x.undo(), 10);
    same("38: the latest", x, y);
  }

  private static void tapeAndSheetsStay() {
    ListenWood x = new ListenWood();
    x.image();
    Due.feed(x, "fir");
    Due.sheet(x, 1, 5, 6);
    x.undo();
    due.is("37: the tape isn't kept", x.count(5), 3);
    due.is("37: nor are sheets", x.load(1), 2);
    x.image();
    due.is("37: tape", x.text(), 1);
    x.sheet(1, 0, 0);
    x.undo();
    due.is("37: the tape stays empty", x.count(5), 0);
    due.is("37: the sheet stays missing", x.load(1), Due.MISSING);
    due.is("37: the fir is gone", x.count(1), 0);
  }

  private static void tear() {
    ListenWood x = new ListenWood();
    due.is("39: nothing", x.tear(), 0);
    x.image();
    x.image();
    due.is("39: something", x.tear(), 1);
    due.is("39: nothing then", x.tear(), 0);
    due.is("38: nothing kept", x.undo(), Due.NONE);
  }

  private static void count() {
    ListenWood x = furnished();
    Due.feed(x, "abc");
    x.hold(9, 0);
    int[] wanted = {3, 2, x.now(1), x.of(0, 2) + x.of(1, 2), x.of(0, 6) + x.of(1, 6), 3, 99, 2};
    for (int what = 0; what < 8; what++) {
      due.is("40: " + what, x.count(what), wanted[what]);
    }
    // The ebony was taken in year 0 for 30, and the spruce was taken 6 times ahead.
    due.is("40: gold", x.count(2), 30);
    due.is("40: taken", x.count(4), 7);
    due.is("40: -1", x.count(-1), Due.BEYOND);
    due.is("40: 8", x.count(8), Due.BEYOND);
  }

  private static void status() {
    ListenWood x = new ListenWood();
    due.is("41: none", x.status(-1), 0);
    due.is("41: -2", x.status(-2), Due.BEYOND);
    due.is("41: 7", x.status(7), Due.BEYOND);
    due.is("41: counted", x.status(0), 2);
    for (int p = 0; p < 8; p++) {
      x.plank(1, 0);
    }
    x.plank(0, 0);
    x.hold(0, 0);
    for (int i = 0; i < 2; i++) {
      x.as(0, 6);
    }
    for (int i = 0; i < 3; i++) {
      x.undo();
    }
    for (int i = 0; i < 5; i++) {
      x.judge(0);
    }
    for (int i = 0; i < 6; i++) {
      x.sheet(0, 0, -1);
    }
    x.odds(8, 0, 0, 0);
    x.text();
    x.now(5);
    x.seed(-1000001);
    x.seed(-1000002);
    x.count(6);
    int[] wanted = {3, 1, 2, 3, 0, 5, 6};
    for (int which = 0; which < 7; which++) {
      due.is("41: " + which, x.status(which), wanted[which]);
    }
    due.is("41: all", x.status(-1), 20);
  }

  private static void statusOutlivesUndo() {
    ListenWood x = new ListenWood();
    x.image();
    x.go(0);
    x.go(0);
    x.undo();
    due.is("41: undo takes none back", x.status(-1), 2);
    due.is("41: beyond", x.status(0), 2);
  }
}
