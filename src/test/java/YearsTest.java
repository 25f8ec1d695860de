/** Promises 10 to 16: years that go by, and years that would. */
public final class YearsTest {
  private static final Due due = new Due();

  public static void main(String[] args) {
    goByRange();
    eventsHappen();
    planksGrow();
    limitsHold();
    makersTake();
    goldIsHeld();
    now();
    ahead();
    gold();
    rings();
    taken();
    tuned();
    farTaken();
    farRings();
    due.end();
  }

  private static void goByRange() {
    ListenWood x = new ListenWood();
    due.is("10: 0", x.go(0), Due.BEYOND);
    due.is("10: 61", x.go(61), Due.BEYOND);
    due.is("10: -1", x.go(-1), Due.BEYOND);
    due.is("10: stays", x.now(0), 0);
    due.is("10: 1", x.go(1), 0);
    due.is("10: 60", x.go(60), 0);
    due.is("10: year", x.now(0), 61);
  }

  private static void eventsHappen() {
    ListenWood x = new ListenWood();
    for (int i = 0; i < 6; i++) {
      x.event(i, 100 * i + 10 + i);
    }
    for (int h = 0; h < 6; h++) {
      due.is("10: mood ahead of the event", x.houseOf(h, 1), 50);
      x.go(1);
      due.is("10: mood of the event", x.houseOf(h, 1), 10 + h);
    }
    x.event(0, 599);
    x.go(1);
    due.is("10: year 6 has event 0", x.houseOf(5, 1), 99);
    x.event(1, 500);
    x.go(1);
    due.is("10: a mood of 0", x.houseOf(5, 1), 0);
    // The event comes first: a deal hears by the mood that it makes.
    ListenWood y = new ListenWood();
    y.plank(5, 0);
    y.event(0, 29);
    y.go(1);
    due.is("10: a deal in a bad mood", y.of(0, 2), 0);
    y.go(1);
    due.is("10: a deal in a good mood", y.of(0, 2), 3);
  }

  private static void planksGrow() {
    ListenWood x = new ListenWood();
    x.plank(6, 1);
    x.house(1, 0, 8);
    x.go(1);
    due.is("10: grain of a fir", x.of(0, 2), 15);
    due.is("10: tone of a fir", x.of(0, 3), 10);
    // Its tone was 0 ahead of the year, so it cracks by that too.
    due.is("10: cracks of a fir", x.of(0, 4), 2);
    due.is("10: age of a fir", x.of(0, 5), 1);
    due.is("10: taken of a fir", x.of(0, 6), 0);
    x.go(1);
    due.is("10: grain then", x.of(0, 2), 30);
    due.is("10: tone then", x.of(0, 3), 18);
    due.is("10: cracks then", x.of(0, 4), 2);
    due.is("10: age then", x.of(0, 5), 2);
  }

  private static void limitsHold() {
    ListenWood x = new ListenWood();
    x.each(60);
    x.go(1);
    x.plank(5, 1);
    x.change(0, 2, 998);
    x.change(0, 4, 9);
    x.change(0, 5, 9999);
    x.change(0, 6, 9999);
    x.plank(3, 1);
    x.change(1, 3, 98);
    x.house(1, 1, 99);
    x.plank(3, 2);
    x.change(2, 3, 9);
    x.house(2, 1, 0);
    x.plank(2, 2);
    x.change(3, 3, 11);
    x.go(1);
    due.is("10: grain 999 at most", x.of(0, 2), 999);
    due.is("10: cracks 9 at most", x.of(0, 4), 9);
    due.is("10: age 9999 at most", x.of(0, 5), 9999);
    due.is("10: tone 99 at most", x.of(1, 3), 99);
    due.is("10: tone cut towards 0", x.of(2, 3), 9);
    due.is("10: tone falls", x.of(3, 3), 10);
    ListenWood y = new ListenWood();
    y.plank(4, 0);
    y.change(0, 5, 40);
    y.change(0, 6, 9999);
    y.go(1);
    due.is("10: taken 9999 at most", y.of(0, 6), 9999);
    due.is("10: it was taken", y.of(0, 5), 0);
  }

  private static void makersTake() {
    ListenWood x = new ListenWood();
    x.each(3);
    x.plank(0, 1);
    x.plank(0, 1);
    x.change(0, 2, 97);
    x.change(0, 4, 1);
    x.change(1, 2, 96);
    // Year 0: grain 100 rings, so it is taken for 10 and tone 5 less 5; grain 99 doesn't ring.
    due.is("10: taken in year 0", x.go(1), 10);
    for (int what = 2; what < 6; what++) {
      due.is("10: another stands there", x.of(0, what), 0);
    }
    due.is("10: house stays", x.of(0, 1), 1);
    due.is("10: taken", x.of(0, 6), 1);
    due.is("10: the second isn't", x.of(1, 6), 0);
    due.is("10: none in years 1 and 2", x.go(2), 10);
    due.is("10: grain of the first", x.of(0, 2), 6);
    due.is("10: grain of the second", x.of(1, 2), 105);
    // Year 3: grain 108, tone 5, 9, 13, 16.
    due.is("10: taken in year 3", x.go(1), 36);
    due.is("10: taken of the second", x.of(1, 6), 1);
  }

  private static void goldIsHeld() {
    ListenWood x = new ListenWood();
    x.each(2);
    for (int p = 0; p < 8; p++) {
      x.plank(4, 0);
    }
    for (int i = 0; i < 24; i++) {
      for (int p = 0; p < 8; p++) {
        x.change(p, 2, 999);
        x.change(p, 3, 99);
        x.change(p, 5, 9999);
      }
      x.go(2);
    }
    // Eight times 624 each other year: 119808 without the bound.
    due.is("10: gold 99999 at most", x.now(1), 99999);
    due.is("13: gold 99999 at most", x.gold(100), 99999);
  }

  private static void now() {
    ListenWood x = new ListenWood();
    due.is("11: what -1", x.now(-1), Due.BEYOND);
    due.is("11: what 8", x.now(8), Due.BEYOND);
    due.is("11: the dearest of none", x.now(5), -1);
    due.is("11: rings of none", x.now(2), 0);
    due.is("11: makers in year 0", x.now(7), 1);
    x.plank(0, 0);
    due.is("11: the dearest of one", x.now(5), 0);
    x.plank(1, 0);
    x.plank(4, 0);
    x.plank(4, 0);
    x.change(0, 2, 100);
    x.change(1, 2, 60);
    x.change(1, 3, 30);
    x.change(1, 4, 4);
    x.change(2, 4, 3);
    x.change(2, 6, 5);
    x.change(3, 6, 7);
    due.is("11: ringing", x.now(2), 3);
    due.is("11: grain", x.now(3), 160);
    due.is("11: cracks", x.now(4), 7);
    // The spruce fetches 2 * (6 + 30 - 20) = 32, each ebony 30.
    due.is("11: the dearest", x.now(5), 1);
    x.change(1, 4, 5);
    due.is("11: the first of two dearest", x.now(5), 2);
    due.is("11: taken", x.now(6), 12);
    x.each(7);
    x.go(6);
    due.is("11: year", x.now(0), 6);
    due.is("11: no makers in year 6", x.now(7), 0);
    x.go(1);
    due.is("11: makers in year 7", x.now(7), 1);
    due.is("11: gold", x.now(1), x.count(2));
  }

  private static void ahead() {
    ListenWood x = new ListenWood();
    due.is("12: no plank", x.ahead(0, 2, 0), Due.BEYOND);
    x.plank(0, 1);
    x.each(40);
    x.house(1, 0, 4);
    x.house(1, 1, 99);
    due.is("12: what 1", x.ahead(0, 1, 0), Due.BEYOND);
    due.is("12: what 7", x.ahead(0, 7, 0), Due.BEYOND);
    due.is("12: what 10", x.ahead(0, 10, 0), Due.BEYOND);
    due.is("12: what 12", x.ahead(0, 12, 0), Due.BEYOND);
    due.is("12: plank -1", x.ahead(-1, 2, 0), Due.BEYOND);
    due.is("12: plank 1", x.ahead(1, 2, 0), Due.BEYOND);
    due.is("12: n -1", x.ahead(0, 2, -1), Due.BEYOND);
    due.is("12: n 101", x.ahead(0, 2, 101), Due.BEYOND);
    due.is("12: grain now", x.ahead(0, 2, 0), 0);
    due.is("12: grain", x.ahead(0, 2, 30), 120);
    due.is("12: tone", x.ahead(0, 3, 2), 18);
    due.is("12: age", x.ahead(0, 5, 40), 40);
    due.is("12: age when taken", x.ahead(0, 5, 41), 0);
    due.is("12: taken", x.ahead(0, 6, 41), 1);
    due.is("12: taken twice", x.ahead(0, 6, 100), 2);
    due.is("12: fetches", x.ahead(0, 11, 3), 27);
    x.house(1, 0, 8);
    due.is("12: cracks", x.ahead(0, 4, 7), 2);
    due.is("12: nothing changed", x.of(0, 2), 0);
    due.is("12: nor the year", x.now(0), 0);
    due.is("12: nor the gold", x.now(1), 0);
    due.is("12: nor z", x.count(6), 1);
  }

  private static void gold() {
    ListenWood x = new ListenWood();
    due.is("13: -1", x.gold(-1), Due.BEYOND);
    due.is("13: 101", x.gold(101), Due.BEYOND);
    x.plank(2, 1);
    x.each(10);
    x.change(0, 2, 70);
    // Grain 3 a year from 70, tone towards 50: 6, 11, 15, 19, 23, 26, 29, 32, 34, 36, 38.
    due.is("13: now", x.gold(0), 0);
    due.is("13: 10", x.gold(10), 0);
    due.is("13: 11", x.gold(11), 10 + 38 + 10);
    due.is("13: nothing changed", x.now(1), 0);
    // Taken again in year 50: grain 120, tone 50.
    due.is("13: 51", x.gold(51), 58 + 12 + 50 + 10);
    due.is("13: as go", x.go(60), 130);
    due.is("13: then", x.gold(0), 130);
  }

  private static void rings() {
    ListenWood x = new ListenWood();
    due.is("14: no plank", x.rings(0), Due.BEYOND);
    x.plank(0, 1);
    x.plank(5, 1);
    x.plank(4, 1);
    x.plank(0, 2);
    x.house(2, 0, 0);
    due.is("14: -1", x.rings(-1), Due.BEYOND);
    due.is("14: 4", x.rings(4), Due.BEYOND);
    x.each(60);
    due.is("14: a plank", x.rings(0), 34);
    due.is("14: a deal", x.rings(1), Due.NONE);
    due.is("14: an ebony", x.rings(2), 40);
    due.is("14: in a still house", x.rings(3), Due.NONE);
    x.change(0, 2, 100);
    due.is("14: now", x.rings(0), 0);
    // It is taken in the very year, 33, in which it would come to ring.
    x.change(0, 2, 0);
    x.each(33);
    due.is("14: taken at once", x.rings(0), 68);
  }

  private static void taken() {
    ListenWood x = new ListenWood();
    due.is("15: no plank", x.taken(0, 0), Due.BEYOND);
    x.plank(4, 1);
    x.each(40);
    due.is("15: v -1", x.taken(0, -1), Due.BEYOND);
    due.is("15: v 10000", x.taken(0, 10000), Due.BEYOND);
    due.is("15: plank 1", x.taken(1, 0), Due.BEYOND);
    due.is("15: 0", x.taken(0, 0), 0);
    due.is("15: 1", x.taken(0, 1), 41);
    due.is("15: 2", x.taken(0, 2), 81);
    due.is("15: 4", x.taken(0, 4), 161);
    due.is("15: 5", x.taken(0, 5), Due.NONE);
    x.change(0, 6, 9998);
    due.is("15: 9999", x.taken(0, 9999), 41);
    x.change(0, 6, 0);
    x.each(50);
    // Makers in years 50, 100, 150, 200: the last one's year is the 201st.
    due.is("15: 3", x.taken(0, 3), 151);
    due.is("15: the 201st", x.taken(0, 4), Due.NONE);
    due.is("15: nothing changed", x.now(0), 0);
    // Of the makers' years it is old enough in 39, 117 and 195.
    x.each(39);
    due.is("15: the 196th", x.taken(0, 3), 196);
    x.go(1);
    due.is("15: the 195th", x.taken(0, 3), 195);
  }

  private static void tuned() {
    ListenWood x = new ListenWood();
    due.is("16: no plank", x.tuned(0, 0), Due.BEYOND);
    x.plank(0, 1);
    x.plank(2, 1);
    due.is("16: v -1", x.tuned(0, -1), Due.BEYOND);
    due.is("16: v 100", x.tuned(0, 100), Due.BEYOND);
    due.is("16: plank 2", x.tuned(2, 0), Due.BEYOND);
    due.is("16: 0", x.tuned(0, 0), 0);
    due.is("16: 5", x.tuned(0, 5), 1);
    due.is("16: 6", x.tuned(0, 6), 2);
    // A plank stops 9 ahead of the mood; a maple doesn't.
    due.is("16: 41", x.tuned(0, 41), 20);
    due.is("16: 42", x.tuned(0, 42), Due.NONE);
    due.is("16: a maple", x.tuned(1, 42), 13);
    due.is("16: a maple as the mood", x.tuned(1, 50), 21);
    due.is("16: above the mood", x.tuned(1, 51), Due.NONE);
    x.change(0, 3, 42);
    due.is("16: now", x.tuned(0, 42), 0);
  }

  /** The 200th year is looked at, the 201st isn't. */
  private static void farTaken() {
    ListenWood x = new ListenWood();
    x.each(60);
    x.go(1);
    // Makers come in the years 60, 120, 180, 240: behind 60, 120, 180 years.
    x.plank(4, 0);
    due.is("15: behind 180", x.taken(0, 3), 180);
    ListenWood y = new ListenWood();
    y.each(40);
    y.plank(4, 0);
    due.is("15: the makers of year 160", y.taken(0, 4), 161);
    y.go(1);
    due.is("15: behind 200", y.taken(0, 5), 200);
    ListenWood z = new ListenWood();
    z.each(40);
    z.plank(4, 0);
    due.is("15: behind 201", z.taken(0, 5), Due.NONE);
  }

  private static void farRings() {
    ListenWood x = new ListenWood();
    x.each(3);
    x.plank(0, 1);
    x.house(1, 0, 1);
    // Its grain is 100 in year 99, when it is taken, and in year 199, when it isn't.
    due.is("14: behind 200", x.rings(0), 200);
    x.each(9);
    due.is("14: behind 200 again", x.rings(0), 200);
    x.each(4);
    due.is("14: behind 100", x.rings(0), 100);
  }
}
