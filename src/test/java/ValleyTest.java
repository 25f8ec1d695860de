/** Promises 1 to 9: the new object, houses, the list, each, planks. */
public final class ValleyTest {
  private static final Due due = new Due();

  public static void main(String[] args) {
    newObject();
    house();
    houseOf();
    eventAndListed();
    each();
    plank();
    ofNumbers();
    hears();
    follows();
    rings();
    splits();
    fetches();
    change();
    due.end();
  }

  private static void newObject() {
    ListenWood x = new ListenWood();
    for (int h = 0; h < 6; h++) {
      due.is("1: loud", x.houseOf(h, 0), 3);
      due.is("1: mood", x.houseOf(h, 1), 50);
      due.is("1: planks in", x.houseOf(h, 2), 0);
      due.is("1: listed", x.listed(h), 50);
    }
    for (int what = 0; what < 8; what++) {
      due.is("1: count", x.count(what), what == 6 ? 1 : 0);
    }
    due.is("1: year", x.now(0), 0);
    for (int spot = 0; spot < 10; spot++) {
      due.is("1: as", x.as(spot, 0), Due.MISSING);
    }
    for (int s = 0; s < 4; s++) {
      due.is("1: load", x.load(s), Due.MISSING);
    }
    due.is("1: undo", x.undo(), Due.NONE);
    due.is("1: tear", x.tear(), 0);
    due.is("1: each", x.each(2), 30);
    due.is("1: status", x.status(-1), 15);
  }

  private static void house() {
    ListenWood x = new ListenWood();
    due.is("2: loud", x.house(5, 0, 9), 3);
    due.is("2: loud again", x.house(5, 0, 0), 9);
    due.is("2: mood", x.house(5, 1, 99), 50);
    due.is("2: mood again", x.house(5, 1, 0), 99);
    due.is("2: house -1", x.house(-1, 0, 0), Due.BEYOND);
    due.is("2: house 6", x.house(6, 0, 0), Due.BEYOND);
    due.is("2: what -1", x.house(0, -1, 0), Due.BEYOND);
    due.is("2: what 2", x.house(0, 2, 0), Due.BEYOND);
    due.is("2: loud -1", x.house(0, 0, -1), Due.BEYOND);
    due.is("2: loud 10", x.house(0, 0, 10), Due.BEYOND);
    due.is("2: mood -1", x.house(0, 1, -1), Due.BEYOND);
    due.is("2: mood 100", x.house(0, 1, 100), Due.BEYOND);
    due.is("2: loud of 0 stays", x.houseOf(0, 0), 3);
    due.is("2: mood of 0 stays", x.houseOf(0, 1), 50);
    due.is("2: mood of 4 stays", x.houseOf(4, 1), 50);
  }

  private static void houseOf() {
    ListenWood x = new ListenWood();
    x.house(4, 0, 7);
    x.house(4, 1, 8);
    x.plank(0, 4);
    x.plank(1, 3);
    x.plank(2, 4);
    due.is("3: loud", x.houseOf(4, 0), 7);
    due.is("3: mood", x.houseOf(4, 1), 8);
    due.is("3: planks in 4", x.houseOf(4, 2), 5);
    due.is("3: planks in 3", x.houseOf(3, 2), 2);
    due.is("3: planks in 0", x.houseOf(0, 2), 0);
    due.is("3: house -1", x.houseOf(-1, 0), Due.BEYOND);
    due.is("3: house 6", x.houseOf(6, 2), Due.BEYOND);
    due.is("3: what -1", x.houseOf(0, -1), Due.BEYOND);
    due.is("3: what 3", x.houseOf(0, 3), Due.BEYOND);
  }

  private static void eventAndListed() {
    ListenWood x = new ListenWood();
    due.is("4: first", x.event(5, 599), 50);
    due.is("4: again", x.event(5, 0), 599);
    due.is("5: listed", x.listed(5), 0);
    due.is("5: another", x.listed(4), 50);
    due.is("4: place -1", x.event(-1, 0), Due.BEYOND);
    due.is("4: place 6", x.event(6, 0), Due.BEYOND);
    due.is("4: v -1", x.event(0, -1), Due.BEYOND);
    due.is("4: v 600", x.event(0, 600), Due.BEYOND);
    due.is("5: place -1", x.listed(-1), Due.BEYOND);
    due.is("5: place 6", x.listed(6), Due.BEYOND);
    due.is("5: place 0 stays", x.listed(0), 50);
  }

  private static void each() {
    ListenWood x = new ListenWood();
    due.is("6: 60", x.each(60), 30);
    due.is("6: 2", x.each(2), 60);
    due.is("6: 1", x.each(1), Due.BEYOND);
    due.is("6: 61", x.each(61), Due.BEYOND);
    due.is("6: least int", x.each(Integer.MIN_VALUE), Due.BEYOND);
    due.is("6: stays", x.each(2), 2);
  }

  private static void plank() {
    ListenWood x = new ListenWood();
    due.is("7: kind -1", x.plank(-1, 0), Due.BEYOND);
    due.is("7: kind 7", x.plank(7, 0), Due.BEYOND);
    due.is("7: house -1", x.plank(0, -1), Due.BEYOND);
    due.is("7: house 6", x.plank(0, 6), Due.BEYOND);
    for (int p = 0; p < 8; p++) {
      due.is("7: new", x.plank(p % 7, p % 6), p);
    }
    due.is("7: a ninth", x.plank(0, 0), Due.FULL);
    due.is("7: a ninth of no kind", x.plank(7, 0), Due.BEYOND);
    due.is("7: eight", x.count(1), 8);
    for (int p = 0; p < 8; p++) {
      due.is("7: kind", x.of(p, 0), p % 7);
      due.is("7: house", x.of(p, 1), p % 6);
      for (int what = 2; what < 7; what++) {
        due.is("7: at first", x.of(p, what), 0);
      }
    }
  }

  private static void ofNumbers() {
    ListenWood x = new ListenWood();
    due.is("8: no plank", x.of(0, 0), Due.BEYOND);
    x.plank(3, 4);
    due.is("8: plank -1", x.of(-1, 0), Due.BEYOND);
    due.is("8: plank 1", x.of(1, 0), Due.BEYOND);
    due.is("8: what -1", x.of(0, -1), Due.BEYOND);
    due.is("8: what 12", x.of(0, 12), Due.BEYOND);
  }

  /** An object with a plank of each kind, its number that kind, in houses of that loud and mood. */
  private static ListenWood ofAllKinds(int loud, int mood) {
    ListenWood x = new ListenWood();
    for (int kind = 0; kind < 7; kind++) {
      x.plank(kind, kind % 6);
    }
    for (int h = 0; h < 6; h++) {
      x.house(h, 0, loud);
      x.house(h, 1, mood);
    }
    return x;
  }

  private static void allAre(String call, ListenWood x, int what, int... wanted) {
    for (int kind = 0; kind < 7; kind++) {
      due.is("8: " + call + " of kind " + kind, x.of(kind, what), wanted[kind]);
    }
  }

  private static void hears() {
    allAre("hears, loud 5", ofAllKinds(5, 50), 7, 5, 10, 5, 5, 1, 5, 9);
    allAre("hears, loud 3", ofAllKinds(3, 50), 7, 3, 6, 3, 3, 1, 3, 5);
    allAre("hears, loud 2", ofAllKinds(2, 30), 7, 2, 4, 6, 6, 1, 2, 3);
    allAre("hears, loud 0", ofAllKinds(0, 29), 7, 0, 0, 4, 4, 1, 0, 0);
    allAre("hears, mood 29", ofAllKinds(9, 29), 7, 9, 18, 9, 9, 1, 0, 17);
    ListenWood x = ofAllKinds(4, 50);
    x.change(0, 1, 3);
    x.change(5, 1, 3);
    due.is("8: a pear beside two", x.of(3, 7), 6);
    due.is("8: a plank beside two", x.of(0, 7), 4);
  }

  private static void follows() {
    allAre("follows, gap 50", ofAllKinds(3, 50), 8, 5, 10, 6, 12, 0, 5, 10);
    allAre("follows, gap 9", ofAllKinds(3, 9), 8, 0, 1, 1, 2, 0, 0, 1);
    allAre("follows, gap 10", ofAllKinds(3, 10), 8, 1, 2, 2, 4, 0, 1, 2);
    allAre("follows, gap 0", ofAllKinds(3, 0), 8, 0, 0, 0, 0, 0, 0, 0);
    ListenWood x = ofAllKinds(3, 10);
    for (int kind = 0; kind < 7; kind++) {
      x.change(kind, 3, 49);
    }
    allAre("follows, gap -39", x, 8, -3, -7, -3, -6, 0, -3, -7);
    for (int kind = 0; kind < 7; kind++) {
      x.change(kind, 3, 20);
    }
    allAre("follows, gap -10", x, 8, -1, -2, -1, -2, 0, -1, -2);
  }

  private static ListenWood withNumbers(int grain, int tone, int cracks, int age) {
    ListenWood x = ofAllKinds(3, 50);
    for (int kind = 0; kind < 7; kind++) {
      x.change(kind, 2, grain);
      x.change(kind, 3, tone);
      x.change(kind, 4, cracks);
      x.change(kind, 5, age);
    }
    return x;
  }

  private static void rings() {
    allAre("rings, 100", withNumbers(100, 0, 0, 0), 9, 1, 1, 1, 0, 0, 0, 1);
    allAre("rings, 99", withNumbers(99, 0, 0, 20), 9, 0, 0, 0, 0, 0, 0, 0);
    allAre("rings, 60 and 30", withNumbers(60, 30, 2, 20), 9, 0, 1, 0, 0, 0, 0, 1);
    allAre("rings, 59 and 99", withNumbers(59, 99, 0, 20), 9, 0, 0, 0, 0, 0, 0, 0);
    allAre("rings, 60 and 29", withNumbers(60, 29, 0, 20), 9, 0, 0, 0, 0, 0, 0, 0);
    allAre("rings, 3 cracks", withNumbers(999, 99, 3, 19), 9, 1, 1, 1, 0, 0, 0, 0);
    allAre("rings, age 20", withNumbers(100, 0, 0, 20), 9, 1, 1, 1, 1, 0, 0, 1);
    allAre("rings, age 39", withNumbers(0, 0, 0, 39), 9, 0, 0, 0, 0, 0, 0, 0);
    allAre("rings, age 40", withNumbers(0, 0, 0, 40), 9, 0, 0, 0, 0, 1, 0, 0);
  }

  private static void splits() {
    allAre("splits, loud 7", ofAllKinds(7, 50), 10, 0, 0, 0, 0, 0, 0, 1);
    ListenWood x = ofAllKinds(8, 50);
    allAre("splits, loud 8, year 0", x, 10, 1, 1, 1, 1, 0, 0, 2);
    x.change(6, 3, 1);
    due.is("8: splits, a fir with a tone", x.of(6, 10), 1);
    x.go(1);
    x.change(6, 3, 0);
    allAre("splits, loud 8, year 1", x, 10, 0, 0, 0, 0, 0, 1, 1);
    x.go(4);
    x.change(6, 3, 5);
    allAre("splits, loud 8, year 5", x, 10, 1, 1, 1, 1, 0, 1, 1);
    x.go(1);
    allAre("splits, loud 8, year 6", x, 10, 0, 0, 0, 0, 0, 0, 0);
  }

  private static void fetches() {
    allAre("fetches, 0", withNumbers(0, 0, 0, 0), 11, 0, 0, 10, 10, 30, 1, 0);
    allAre("fetches, 129", withNumbers(129, 30, 2, 0), 11, 32, 64, 42, 42, 126, 1, 64);
    allAre("fetches, cracked", withNumbers(100, 30, 9, 0), 11, 0, 0, 10, 10, 30, 1, 0);
    allAre("fetches, all", withNumbers(999, 99, 0, 0), 11, 198, 396, 208, 208, 624, 1, 396);
  }

  private static void change() {
    ListenWood x = new ListenWood();
    due.is("9: no plank", x.change(0, 0, 0), Due.BEYOND);
    x.plank(0, 0);
    x.plank(0, 0);
    int[] most = {6, 5, 999, 99, 9, 9999, 9999};
    for (int what = 0; what < 7; what++) {
      due.is("9: most", x.change(1, what, most[what]), 0);
      due.is("9: above most", x.change(1, what, most[what] + 1), Due.BEYOND);
      due.is("9: below 0", x.change(1, what, -1), Due.BEYOND);
      due.is("9: is so", x.of(1, what), most[what]);
      due.is("9: the other stays", x.of(0, what), 0);
      due.is("9: back", x.change(1, what, 0), most[what]);
    }
    due.is("9: what -1", x.change(1, -1, 0), Due.BEYOND);
    due.is("9: what 7", x.change(1, 7, 0), Due.BEYOND);
    due.is("9: plank -1", x.change(-1, 0, 0), Due.BEYOND);
    due.is("9: plank 2", x.change(2, 0, 0), Due.BEYOND);
  }
}
