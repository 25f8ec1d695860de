/** Promises 27 to 29: the tape and the texts on it. */
public final class TextTest {
  private static final Due due = new Due();

  public static void main(String[] args) {
    feed();
    wipe();
    planksOfText();
    housesOfText();
    eventsOfText();
    blanks();
    faults();
    faultsOfPlanks();
    nothingChangesByFault();
    ninthPlank();
    longTexts();
    due.end();
  }

  private static void feed() {
    ListenWood x = new ListenWood();
    due.is("27: n 0", x.feed(0, 0), Due.BEYOND);
    due.is("27: n 5", x.feed(0, 5), Due.BEYOND);
    due.is("27: empty", x.count(5), 0);
    due.is("27: 3", x.feed(0x66666972, 3), 3);
    due.is("27: text", x.text(), 1);
    due.is("27: kind", x.of(0, 0), 6);
    due.is("27: 4", x.feed(0x64656120, 4), 4);
    due.is("27: 1", x.feed(0x65646100, 1), 5);
    due.is("27: a byte of 0", x.text(), -1);
    for (int i = 1; i <= 29; i++) {
      due.is("27: many", x.feed(0x66666666, 4), 4 * i);
    }
    due.is("27: 119", x.feed(0, 3), 119);
    due.is("27: two are too many", x.feed(0, 2), Due.FULL);
    due.is("27: one isn't", x.feed(0, 1), 120);
    due.is("27: one is", x.feed(0, 1), Due.FULL);
    due.is("27: none of them", x.feed(0, 0), Due.BEYOND);
    due.is("27: 120", x.count(5), 120);
  }

  private static void wipe() {
    ListenWood x = new ListenWood();
    due.is("28: empty", x.wipe(), 0);
    Due.feed(x, "fir");
    due.is("28: 3", x.wipe(), 3);
    due.is("28: gone", x.count(5), 0);
    due.is("28: no text", x.text(), -1);
    due.is("28: no fir", x.count(1), 0);
  }

  private static void planksOfText() {
    ListenWood x = new ListenWood();
    String[] words = {"plank", "spruce", "maple", "pear", "ebony", "deal", "fir"};
    for (int kind = 0; kind < 7; kind++) {
      due.is("29: " + words[kind], Due.text(x, words[kind]), 1);
      due.is("29: the tape is empty", x.count(5), 0);
      due.is("29: kind", x.of(kind, 0), kind);
      due.is("29: house", x.of(kind, 1), 0);
      due.is("29: grain", x.of(kind, 2), 0);
      due.is("29: tone", x.of(kind, 3), 0);
    }
    ListenWood y = new ListenWood();
    due.is("29: three", Due.text(y, "pear in 5 grain 999 tone 99;fir grain 7;deal in 2 tone 8"), 3);
    int[][] wanted = {{3, 5, 999, 99, 0, 0, 0}, {6, 0, 7, 0, 0, 0, 0}, {5, 2, 0, 8, 0, 0, 0}};
    for (int p = 0; p < 3; p++) {
      for (int what = 0; what < 7; what++) {
        due.is("29: plank " + p + ", " + what, y.of(p, what), wanted[p][what]);
      }
    }
  }

  private static void housesOfText() {
    ListenWood x = new ListenWood();
    due.is("29: house", Due.text(x, "house 1 loud 9 mood 99"), 1);
    due.is("29: loud", x.houseOf(1, 0), 9);
    due.is("29: mood", x.houseOf(1, 1), 99);
    due.is("29: loud alone", Due.text(x, "house 1 loud 0"), 1);
    due.is("29: loud 0", x.houseOf(1, 0), 0);
    due.is("29: mood stays", x.houseOf(1, 1), 99);
    due.is("29: mood alone", Due.text(x, "house 1 mood 5"), 1);
    due.is("29: loud stays", x.houseOf(1, 0), 0);
    due.is("29: mood 5", x.houseOf(1, 1), 5);
    due.is("29: neither", Due.text(x, "house 1"), 1);
    due.is("29: mood stays again", x.houseOf(1, 1), 5);
    due.is("29: the last house", Due.text(x, "house 5 loud 4;house 0 mood 0"), 2);
    due.is("29: loud 4", x.houseOf(5, 0), 4);
    due.is("29: mood 0", x.houseOf(0, 1), 0);
    due.is("29: item by item", Due.text(x, "house 2 mood 5;house 2 mood 6"), 2);
    due.is("29: the later", x.houseOf(2, 1), 6);
  }

  private static void eventsOfText() {
    ListenWood x = new ListenWood();
    due.is("29: events", Due.text(x, "event 5 5 99;event 0 0 0;each 60"), 3);
    due.is("29: listed 5", x.listed(5), 599);
    due.is("29: listed 0", x.listed(0), 0);
    due.is("29: each 60", x.each(30), 60);
    due.is("29: each", Due.text(x, "each 2"), 1);
    due.is("29: each 2", x.each(30), 2);
  }

  private static void blanks() {
    ListenWood x = new ListenWood();
    due.is("29: no blanks", Due.text(x, "each5;event1 2 3;fir in3grain4tone5"), 3);
    due.is("29: each", x.each(30), 5);
    due.is("29: listed", x.listed(1), 203);
    due.is("29: house", x.of(0, 1), 3);
    due.is("29: grain", x.of(0, 2), 4);
    due.is("29: tone", x.of(0, 3), 5);
    due.is("29: blanks around", Due.text(x, "  fir  ;  fir  "), 2);
    due.is("29: leading noughts", Due.text(x, "each 0000000000000000060"), 1);
    due.is("29: each", x.each(30), 60);
    due.is("29: blanks alone", Due.text(x, "   "), -4);
    due.is("29: a tab is no blank", Due.text(x, "fir\t"), -4);
    due.is("29: words run together", Due.text(x, "firin 3"), -1);
  }

  private static void fault(String text, int place) {
    ListenWood x = new ListenWood();
    due.is("29: fault of '" + text + "'", Due.text(x, text), -1 - place);
    due.is("29: the tape is empty", x.count(5), 0);
    due.is("29: no plank", x.count(1), 0);
    due.is("29: no finding", x.status(-1), 0);
  }

  private static void faults() {
    fault("", 0);
    fault(";", 0);
    fault("7", 0);
    fault("oak", 0);
    fault("in 3", 0);
    fault("Fir", 0);
    fault("fi", 0);
    fault("firs", 0);
    fault("firz", 0);
    fault("fira", 0);
    fault(" firs", 1);
    fault("fir;", 4);
    fault("fir; ", 5);
    fault("fir;;fir", 4);
    fault("fir fir", 4);
    fault("fir,fir", 3);
    fault("house", 5);
    fault("house 6", 6);
    fault("house x", 6);
    fault("house 1 loud", 12);
    fault("house 1 loud 10", 13);
    fault("house 1 mood 100", 13);
    fault("house 1 mood 1 loud 1", 15);
    fault("house 1 loud 1 loud 1", 15);
    fault("house 1 1", 8);
    fault("event 6 0 0", 6);
    fault("event 0 6 0", 8);
    fault("event 0 0 100", 10);
    fault("event 0 0", 9);
    fault("event 0 0 0 0", 12);
    fault("event 0;", 7);
    fault("each", 4);
    fault("each 1", 5);
    fault("each 61", 5);
    fault("each 1000", 5);
    fault("each 4294967300", 5);
    fault("each 5 5", 7);
    fault("each -5", 5);
    fault("each" + (char) 233, 4);
  }

  private static void faultsOfPlanks() {
    fault("fir in", 6);
    fault("fir in 6", 7);
    fault("fir in x", 7);
    fault("fir grain 1000", 10);
    fault("fir grain 99999999999", 10);
    fault("fir tone 100", 9);
    fault("fir tone 1 grain 1", 11);
    fault("fir grain 1 in 1", 12);
    fault("fir in 1 in 1", 9);
    fault("fir in 1 2", 9);
    fault("fir tone", 8);
    fault("fir tone ;", 9);
    fault("fir tone    ", 12);
  }

  private static void nothingChangesByFault() {
    ListenWood x = new ListenWood();
    x.plank(1, 1);
    due.is("29: a late fault", Due.text(x, "fir;house 1 loud 9;event 1 1 1;each 9;oak"), -39);
    due.is("29: no fir", x.count(1), 1);
    due.is("29: loud stays", x.houseOf(1, 0), 3);
    due.is("29: the list stays", x.listed(1), 50);
    due.is("29: each stays", x.each(30), 30);
    due.is("29: the kind stays", x.of(0, 0), 1);
  }

  private static void ninthPlank() {
    ListenWood x = new ListenWood();
    due.is("29: eight", Due.text(x, "fir;fir;fir;fir;fir;fir;fir;fir"), 8);
    due.is("29: the ninth", Due.text(x, "house 0; deal in 9"), -10);
    due.is("29: eight still", x.count(1), 8);
    ListenWood y = new ListenWood();
    y.plank(0, 0);
    due.is("29: one and eight", Due.text(y, "fir;fir;fir;fir;fir;fir;fir;fir"), -29);
    due.is("29: one", y.count(1), 1);
  }

  private static void longTexts() {
    ListenWood x = new ListenWood();
    StringBuilder items = new StringBuilder("each2");
    for (int i = 0; i < 19; i++) {
      items.append(";each3");
    }
    due.is("29: twenty", Due.text(x, items.toString()), 20);
    due.is("29: a full tape ends too early", Due.text(x, items + ";"), -121);
    due.is("29: each", x.each(30), 3);
  }
}
