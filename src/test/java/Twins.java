import java.util.ArrayList;
import java.util.List;
import java.util.function.Supplier;
import java.util.function.ToLongFunction;

/**
 * Two objects made alike, of which one is asked a call that must change nothing (but status(), if
 * it answers a finding): then both are looked through to the last, and must look alike.
 */
final class Twins {
  private final Due due;
  private final Supplier<ListenWood> maker;

  Twins(Due due, Supplier<ListenWood> maker) {
    this.due = due;
    this.maker = maker;
  }

  /** Five planks (numbers 0 to 4), three sheets (0 to 2), spots 0 and 9 in use, a tape, an image. */
  static ListenWood furnished() {
    ListenWood x = Due.withKinds(5, 6, 3, 1, 0);
    for (int i = 0; i < 6; i++) {
      x.house(i, 0, i + 2);
      x.house(i, 1, 20 + 9 * i);
      x.event(i, 100 * i + 60 + i);
    }
    for (int p = 0; p < 5; p++) {
      for (int what = 1; what < 7; what++) {
        x.change(p, what, 1 + (p + what) % 5);
      }
    }
    x.each(7);
    x.hold(0, 1);
    x.hold(9, 4);
    x.seed(77);
    x.sheet(0, 8, 6);
    x.sheet(1, 16, 12);
    x.sheet(2, 32, 2);
    for (int i = 0; i < 12; i++) {
      x.write(0, i % 6, 30 + i);
      x.write(1, i, 50 + i);
    }
    x.write(2, 1, 99);
    x.go(2);
    x.image();
    x.change(4, 2, 700);
    x.house(5, 1, 1);
    x.go(1);
    x.feed(0x66697220, 4);
    x.feed(0x696e2034, 4);
    return x;
  }

  /** A call that must be refused with that finding. */
  void refused(String call, long finding, ToLongFunction<ListenWood> asked) {
    ListenWood x = maker.get();
    ListenWood y = maker.get();
    due.is(call, asked.applyAsLong(x), finding);
    int told = (int) (Due.BEYOND - finding);
    for (int which = -1; which < 7; which++) {
      int more = which == -1 || which == told ? 1 : 0;
      due.is(call + ": status " + which, x.status(which), y.status(which) + more);
    }
    alike(call, x, y);
  }

  /** A call that must be answered, and change nothing at all. */
  void told(String call, long want, ToLongFunction<ListenWood> asked) {
    ListenWood x = maker.get();
    ListenWood y = maker.get();
    due.is(call, asked.applyAsLong(x), want);
    for (int which = -1; which < 7; which++) {
      due.is(call + ": status " + which, x.status(which), y.status(which));
    }
    alike(call, x, y);
  }

  /** A call that must be answered with no finding, whatever it answers, and change nothing at all. */
  void onlyTells(String call, ToLongFunction<ListenWood> asked) {
    long answer = asked.applyAsLong(maker.get());
    due.is(call + ": a finding", answer < -1000000 ? answer : 0, 0);
    told(call, answer, asked);
  }

  private void alike(String call, ListenWood x, ListenWood y) {
    List<Long> ofX = look(x);
    List<Long> ofY = look(y);
    due.is(call + ": as many to see", ofX.size(), ofY.size());
    for (int i = 0; i < Math.min(ofX.size(), ofY.size()); i++) {
      due.is(call + ": what is seen at " + i, ofX.get(i), ofY.get(i));
    }
  }

  /** All that can be seen of an object. What has been seen may be changed to see what hasn't. */
  static List<Long> look(ListenWood x) {
    List<Long> seen = new ArrayList<>();
    valley(x, seen);
    for (int s = 0; s < 4; s++) {
      sheet(x, s, seen);
    }
    seen.add((long) x.text());
    seen.add((long) x.count(1));
    seen.add((long) x.undo());
    valley(x, seen);
    return seen;
  }

  private static void valley(ListenWood x, List<Long> seen) {
    for (int i = 0; i < 6; i++) {
      seen.add((long) x.listed(i));
      for (int what = 0; what < 3; what++) {
        seen.add((long) x.houseOf(i, what));
      }
    }
    for (int what = 0; what < 8; what++) {
      seen.add((long) x.count(what));
      seen.add((long) x.now(what));
    }
    for (int p = 0; p < x.count(1); p++) {
      for (int what = 0; what < 7; what++) {
        seen.add((long) x.of(p, what));
      }
    }
    for (int spot = 0; spot < 10; spot++) {
      seen.add((long) x.as(spot, 0));
    }
    int each = x.each(2);
    seen.add((long) each);
    x.each(each);
  }

  /** Its size, its first numbers, told by the moods that they become, and its bits. */
  private static void sheet(ListenWood x, int s, List<Long> seen) {
    int size = -1;
    for (int step = 32; step > 0; step /= 2) {
      size += size + step <= 40 && x.copy(s, 0, s, 0, size + step) >= 0 ? step : 0;
    }
    seen.add((long) size);
    moods(x, s, seen);
    if (size >= 12) {
      x.copy(s, 6, s, 0, 6);
      moods(x, s, seen);
    }
    if (s == 0) {
      // The other sheets have yet to be seen, so its bits are told by those that it takes.
      x.write(s, 0, 256);
      moods(x, s, seen);
      x.write(s, 0, 65536);
      moods(x, s, seen);
      return;
    }
    for (int bits = 8; bits <= 32; bits *= 2) {
      x.sheet(0, bits, 0);
      seen.add((long) x.copy(s, 0, 0, 0, 0));
    }
  }

  private static void moods(ListenWood x, int s, List<Long> seen) {
    seen.add((long) x.load(s));
    for (int h = 0; h < 6; h++) {
      seen.add((long) x.houseOf(h, 1));
    }
  }
}
