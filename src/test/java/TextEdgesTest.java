/** The sentences of promises 27 to 29, and those of "Terms" about texts, that name a boundary. */
public final class TextEdgesTest {
  private static final String[] KINDS = {"plank", "spruce", "maple", "pear", "ebony", "deal", "fir"};

  private static final Due due = new Due();

  public static void main(String[] args) {
    feed();
    feedFull();
    feedBytes();
    wipe();
    fullTape();
    wordsAsLong();
    numbersAsLong();
    numbers999();
    bordersOfTokens();
    noTokens();
    blanks();
    items();
    planks();
    planksPerhaps();
    housesAndTheirs();
    events();
    each();
    faultOfNumber();
    faultOfWord();
    faultOfNinth();
    faultOfEnd();
    faultsChangeNothing();
    textIsSo();
    due.end();
  }

  private static void feed() {
    due.by("THE TAPE gets the n lowest bytes of a number behind it, the highest of these first (n 1 to 4): "
        + "how many it has. BEYOND: n. FULL.");
    ListenWood x = new ListenWood();
    due.is("1", x.feed(0x71727365, 1), 1);
    due.is("2", x.feed(0x71726163, 2), 3);
    due.is("3", x.feed(0x71682036, 3), 6);
    due.is("4", x.feed(0x30202020, 4), 10);
    due.is("each 60", x.text(), 1);
    due.is("so it is", x.each(2), 60);
    due.is("0", x.feed(0x20202020, 0), Due.BEYOND);
    due.is("5", x.feed(0x20202020, 5), Due.BEYOND);
    due.is("nothing came", x.count(5), 0);
  }

  private static void feedFull() {
    due.by("THE TAPE gets the n lowest bytes of a number behind it, the highest of these first (n 1 to 4): "
        + "how many it has. BEYOND: n. FULL.");
    for (int n = 1; n <= 4; n++) {
      ListenWood x = new ListenWood();
      for (int i = 0; i < 120 - n; i++) {
        x.feed(32, 1);
      }
      for (int more = n + 1; more <= 4; more++) {
        due.is(more + " into " + n, x.feed(0, more), Due.FULL);
        due.is("none of them came", x.count(5), 120 - n);
      }
      due.is(n + " into " + n, x.feed(0, n), 120);
      due.is("one more", x.feed(0, 1), Due.FULL);
      due.is("120", x.wipe(), 120);
      due.is("room again", x.feed(0, 4), 4);
    }
  }

  private static void feedBytes() {
    due.by("THE TAPE gets the n lowest bytes of a number behind it, the highest of these first (n 1 to 4)");
    for (int high : new int[] {0, -1, Integer.MIN_VALUE}) {
      ListenWood x = new ListenWood();
      due.is("one of a number of sign", x.feed(high << 8 | 'f', 1), 1);
      due.is("two of it", x.feed(high << 16 | 'i' << 8 | 'r', 2), 3);
      due.is("a fir", x.text(), 1);
    }
    ListenWood y = new ListenWood();
    y.feed(-1, 4);
    due.is("four bytes of 255: no token", y.text(), -1);
    y.feed(0x20ffffff, 4);
    due.is("a blank first", y.text(), -2);
  }

  private static void wipe() {
    due.by("THE TAPE is empty: how many it had.");
    ListenWood x = new ListenWood();
    due.is("none", x.wipe(), 0);
    x.feed(0x6669723b, 3);
    due.is("three", x.wipe(), 3);
    due.is("none again", x.wipe(), 0);
    for (int i = 0; i < 30; i++) {
      x.feed(0x6669723b, 4);
    }
    due.is("full", x.wipe(), 120);
    due.is("empty", x.count(5), 0);
    due.is("a text behind it", Due.text(x, "fir"), 1);
    due.is("nothing else", x.count(1), 1);
  }

  private static void fullTape() {
    due.by("A TEXT is read from THE TAPE (bytes, at most 120).");
    ListenWood x = new ListenWood();
    StringBuilder text = new StringBuilder();
    for (int i = 0; i < 19; i++) {
      text.append("each").append(2 + i % 8).append(';');
    }
    text.append("each60");
    due.is("120 bytes", text.length(), 120);
    due.is("twenty items", Due.text(x, text.toString()), 20);
    due.is("the last one counts", x.each(2), 60);
    due.is("then it's empty", x.count(5), 0);
    StringBuilder blank = new StringBuilder("fir");
    while (blank.length() < 120) {
      blank.append(' ');
    }
    due.is("one item and blanks", Due.text(x, blank.toString()), 1);
    blank.setCharAt(119, ';');
    due.is("a sign at the end", Due.text(x, blank.toString()), -121);
    blank.setCharAt(119, 'x');
    due.is("a fault in the last byte", Due.text(x, blank.toString()), -120);
    due.is("one fir", x.count(1), 1);
  }

  private static void fault(String text, int place) {
    ListenWood x = new ListenWood();
    due.is("fault of '" + text + "'", Due.text(x, text), -1 - place);
    due.is("fault of '" + text + "': no finding", x.status(-1), 0);
    due.is("fault of '" + text + "': the tape", x.count(5), 0);
    due.is("fault of '" + text + "': no plank", x.count(1), 0);
  }

  private static void taken(String text, int items) {
    due.is("items of '" + text + "'", Due.text(new ListenWood(), text), items);
  }

  private static void wordsAsLong() {
    due.by("TOKENS, each as long as can be: WORDS (letters a to z)");
    for (String kind : KINDS) {
      taken(kind, 1);
      fault(kind + "s", 0);
      fault(kind + kind, 0);
      fault(kind.substring(1), 0);
      fault(kind.substring(0, kind.length() - 1), 0);
      fault(kind.substring(0, 2) + " " + kind.substring(2), 0);
    }
    String[] texts = {"house 0 loud 0 mood 0", "event 0 0 0", "each 2", "fir in 0 grain 0 tone 0"};
    for (String text : texts) {
      taken(text, 1);
      for (int place = 0; place < text.length(); place++) {
        boolean isFirst = place == 0 || text.charAt(place - 1) == ' ';
        if (isFirst && Character.isLetter(text.charAt(place))) {
          fault(text.substring(0, place) + "x" + text.substring(place + 1), place);
        }
      }
    }
    fault("firin 3", 0);
    fault("fir in3grain4tone5tone", 18);
    taken("fir in3grain4tone5", 1);
    fault("house1loudmood", 6);
    fault("house1loud1mood1mood", 16);
    fault("eachh 5", 0);
    fault("each 5each", 6);
  }

  private static void numbersAsLong() {
    due.by("TOKENS, each as long as can be: WORDS (letters a to z), NUMBERS (digits, 999 at most)");
    taken("each 60", 1);
    fault("each 6 0", 7);
    fault("each 600", 5);
    fault("event 012", 6);
    taken("event 0 1 2", 1);
    taken("event 00 01 02", 1);
    fault("house 0 1", 8);
    fault("house 01 1", 9);
  }

  private static void numbers999() {
    due.by("NUMBERS (digits, 999 at most)");
    ListenWood x = new ListenWood();
    due.is("999", Due.text(x, "fir grain 999"), 1);
    due.is("0999", Due.text(x, "fir grain 0999"), 1);
    due.is("many noughts", Due.text(x, "fir grain 000000000000000000000000000000000000999"), 1);
    due.is("noughts alone", Due.text(x, "fir grain 0000 tone 000"), 1);
    int[] wanted = {999, 999, 999, 0};
    for (int p = 0; p < 4; p++) {
      due.is("grain of " + p, x.of(p, 2), wanted[p]);
    }
    fault("fir grain 1000", 10);
    fault("fir grain 01000", 10);
    fault("fir grain 9990", 10);
    fault("fir grain 9999", 10);
    // Numbers that come back to 5 where an int, or a long, ends.
    fault("fir grain 4294967301", 10);
    fault("fir grain 18446744073709551621", 10);
    fault("fir grain 2147483648", 10);
    fault("each 340282366920938463463374607431768211461", 5);
  }

  private static void bordersOfTokens() {
    due.by("WORDS (letters a to z), NUMBERS (digits, 999 at most), SIGN ; ;");
    // The signs beside a and z, 0 and 9, and ;.
    for (char c : new char[] {'`', '{', '/', ':', '<', 'A', 'Z', '@', '['}) {
      fault("" + c, 0);
      fault("fir" + c, 3);
      fault("fir in 5" + c, 8);
      fault("fir" + c + "fir", 3);
      fault("each 5" + c + "0", 6);
    }
    fault("Fir", 0);
    fault("FIR", 0);
    fault("fiR", 0);
    taken("fir;fir", 2);
    taken("maple;deal grain 0;spruce tone 9", 3);
  }

  private static void noTokens() {
    due.by("a byte that begins no TOKEN");
    for (int b = 0; b < 256; b++) {
      boolean isToken = b >= 'a' && b <= 'z' || b >= '0' && b <= '9' || b == ';' || b == ' ';
      if (!isToken) {
        fault("fir " + (char) b, 4);
        fault("each 5" + (char) b, 6);
      }
    }
  }

  private static void blanks() {
    due.by("blanks may stand between.");
    taken("fir;each 5", 2);
    taken("fir ; each 5", 2);
    taken("   fir   ;   each   5   ", 2);
    taken("fir in0grain0tone0", 1);
    taken("fir  in  0  grain  0  tone  0", 1);
    fault(" ", 1);
    fault("    ", 4);
    fault("fi r", 0);
    fault(" ;", 1);
    fault("each 5 5", 7);
    fault("   each   5   5", 14);
  }

  private static void items() {
    due.by("TEXT: ITEM { ; ITEM }.");
    taken("fir", 1);
    taken("fir;fir", 2);
    taken("fir;house 0;event 0 0 0;each 2", 4);
    fault("", 0);
    fault(";", 0);
    fault(";fir", 0);
    fault("fir;", 4);
    fault("fir;;fir", 4);
    fault("fir fir", 4);
    fault("fir house 0", 4);
    fault("house 0 fir", 8);
    fault("each 2 each 3", 7);
    fault("event 0 0 0 fir", 12);
    fault("in 3", 0);
    fault("grain 3", 0);
    fault("tone 3", 0);
    fault("loud 3", 0);
    fault("mood 3", 0);
    fault("3", 0);
  }

  private static void planks() {
    due.by("ITEM: plank, spruce, maple, pear, ebony, deal or fir, perhaps in and a NUMBER (a HOUSE; 0 "
        + "without), perhaps grain and a NUMBER (0 to 999), perhaps tone and a NUMBER (0 to 99): a new "
        + "one;");
    int[] kinds = {0, 1, 2, 3, 4, 5, 6};
    for (int kind : kinds) {
      ListenWood x = new ListenWood();
      String word = KINDS[kind];
      due.is(word, Due.text(x, word), 1);
      due.is(word + ", all", Due.text(x, word + " in 5 grain 999 tone 99"), 1);
      due.is(word + ", the least", Due.text(x, word + " in 0 grain 0 tone 0"), 1);
      int[][] wanted = {{kind, 0, 0, 0, 0, 0, 0}, {kind, 5, 999, 99, 0, 0, 0}, {kind, 0, 0, 0, 0, 0, 0}};
      for (int p = 0; p < 3; p++) {
        for (int what = 0; what < 7; what++) {
          due.is(word + " " + p + ", what " + what, x.of(p, what), wanted[p][what]);
        }
      }
      int l = word.length();
      fault(word + " in 6", l + 4);
      fault(word + " grain 1000", l + 7);
      fault(word + " tone 100", l + 6);
      fault(word + " 0", l + 1);
    }
  }

  private static void planksPerhaps() {
    due.by("perhaps in and a NUMBER (a HOUSE; 0 without), perhaps grain and a NUMBER (0 to 999), perhaps "
        + "tone and a NUMBER (0 to 99)");
    ListenWood x = new ListenWood();
    for (int set = 0; set < 8; set++) {
      String text = "deal" + ((set & 1) > 0 ? " in 4" : "") + ((set & 2) > 0 ? " grain 77" : "")
          + ((set & 4) > 0 ? " tone 66" : "");
      due.is(text, Due.text(x, text), 1);
      due.is(text + ": house", x.of(set, 1), (set & 1) > 0 ? 4 : 0);
      due.is(text + ": grain", x.of(set, 2), (set & 2) > 0 ? 77 : 0);
      due.is(text + ": tone", x.of(set, 3), (set & 4) > 0 ? 66 : 0);
    }
    fault("fir grain 1 in 1", 12);
    fault("fir tone 1 in 1", 11);
    fault("fir tone 1 grain 1", 11);
    fault("fir in 1 in 1", 9);
    fault("fir grain 1 grain 1", 12);
    fault("fir tone 1 tone 1", 11);
    fault("fir in", 6);
    fault("fir grain", 9);
    fault("fir tone", 8);
    fault("fir in grain 1", 7);
    fault("fir in tone 1", 7);
    fault("fir grain tone 1", 10);
    fault("fir in ;", 7);
    fault("fir grain ;", 10);
    fault("fir tone ;", 9);
    fault("fir loud 1", 4);
  }

  private static void housesAndTheirs() {
    due.by("house, a NUMBER (a HOUSE), perhaps loud and a NUMBER (0 to 9), perhaps mood and a NUMBER (0 to "
        + "99);");
    for (int h = 0; h < 6; h += 5) {
      ListenWood x = new ListenWood();
      due.is("neither", Due.text(x, "house " + h), 1);
      due.is("loud stays", x.houseOf(h, 0), 3);
      due.is("mood stays", x.houseOf(h, 1), 50);
      due.is("the most", Due.text(x, "house " + h + " loud 9 mood 99"), 1);
      due.is("loud 9", x.houseOf(h, 0), 9);
      due.is("mood 99", x.houseOf(h, 1), 99);
      due.is("the least loud", Due.text(x, "house " + h + " loud 0"), 1);
      due.is("loud 0", x.houseOf(h, 0), 0);
      due.is("mood still 99", x.houseOf(h, 1), 99);
      due.is("the least mood", Due.text(x, "house " + h + " mood 0"), 1);
      due.is("loud still 0", x.houseOf(h, 0), 0);
      due.is("mood 0", x.houseOf(h, 1), 0);
      due.is("another", x.houseOf(5 - h, 0), 3);
    }
    fault("house", 5);
    fault("house 6", 6);
    fault("house 999", 6);
    fault("house;", 5);
    fault("house loud 1", 6);
    fault("house 5 loud 10", 13);
    fault("house 5 mood 100", 13);
    fault("house 5 loud", 12);
    fault("house 5 mood", 12);
    fault("house 5 loud ;", 13);
    fault("house 5 mood ;", 13);
    fault("house 5 loud mood 5", 13);
    fault("house 5 mood 5 loud 5", 15);
    fault("house 5 loud 5 loud 5", 15);
    fault("house 5 mood 5 mood 5", 15);
    fault("house 5 tone 5", 8);
  }

  private static void events() {
    due.by("event, three NUMBERS (a place of THE LIST, 0 to 5, a HOUSE, a MOOD);");
    ListenWood x = new ListenWood();
    due.is("the least and the most", Due.text(x, "event 0 0 0;event 5 5 99;event 1 0 99;event 4 5 0"), 4);
    int[] wanted = {0, 99, 50, 50, 500, 599};
    for (int i = 0; i < 6; i++) {
      due.is("place " + i, x.listed(i), wanted[i]);
    }
    fault("event 6 0 0", 6);
    fault("event 0 6 0", 8);
    fault("event 0 0 100", 10);
    fault("event", 5);
    fault("event ", 6);
    fault("event 0", 7);
    fault("event 0 0", 9);
    fault("event;", 5);
    fault("event 0;", 7);
    fault("event 0 0;", 9);
    fault("event 0 0 0 0", 12);
    fault("event 0 0 mood 0", 10);
  }

  private static void each() {
    due.by("each, a NUMBER (2 to 60).");
    ListenWood x = new ListenWood();
    due.is("2", Due.text(x, "each 2"), 1);
    due.is("it is 2", x.each(30), 2);
    due.is("60", Due.text(x, "each 60"), 1);
    due.is("it is 60", x.each(30), 60);
    fault("each 1", 5);
    fault("each 0", 5);
    fault("each 61", 5);
    fault("each 62", 5);
    fault("each", 4);
    fault("each;", 4);
    fault("each each", 5);
    fault("each 2 2", 7);
  }

  private static void faultOfNumber() {
    due.by("FAULT: the place (from 0) of the first byte of the first TOKEN that can't stand there (a "
        + "NUMBER that isn't as told, another WORD, a byte that begins no TOKEN, the WORD of a 9th PLANK: "
        + "its own), or how many bytes there are if it ends too early.");
    // The first of several faults counts, and the first byte of a token of several.
    fault("each 111;oak", 5);
    fault("fir in   77 grain 5000", 9);
    fault("event 9 9 999", 6);
    fault("event 5 9 999", 8);
    fault("event 5 5 999;", 10);
    fault("00", 0);
    fault("fir;00", 4);
  }

  private static void faultOfWord() {
    due.by("another WORD");
    fault("oak", 0);
    fault("planks", 0);
    fault("a", 0);
    fault("z", 0);
    fault("fir;oak", 4);
    fault("fir oak", 4);
    fault("fir in oak", 7);
    fault("fir grain a", 10);
    fault("fir tone z", 9);
    fault("each a", 5);
    fault("event 0 0 a", 10);
    fault("house 0 mood a", 13);
    fault("each oak", 5);
    fault("house 0 oak", 8);
    fault("event 0 0 oak", 10);
    fault("fir; house", 10);
  }

  private static void faultOfNinth() {
    due.by("the WORD of a 9th PLANK: its own");
    String seven = "fir;fir;fir;fir;fir;fir;fir;";
    for (String kind : KINDS) {
      due.is("an eighth " + kind, Due.text(new ListenWood(), seven + kind), 8);
      fault(seven + "fir;" + kind, 32);
      fault(seven + "fir;  " + kind + " in 5 grain 7", 34);
    }
    fault(seven + "fir;fir in 9", 32);
    fault(seven + "fir in 9;fir", 35);
    due.is("eight and others", Due.text(new ListenWood(), seven + "fir;house 5;each 2"), 10);
    fault(seven + "fir;each 2;deal", 39);
    // Those that stand there count as well.
    ListenWood x = Due.withKinds(0, 0, 0, 0, 0, 0, 0);
    due.is("seven and two", Due.text(x, "deal;fir"), -6);
    due.is("seven still", x.count(1), 7);
    due.is("seven and one", Due.text(x, "deal"), 1);
    due.is("eight and one", Due.text(x, " fir"), -2);
    due.is("eight and none", Due.text(x, "each 9"), 1);
    due.is("eight", x.count(1), 8);
    due.is("no FULL", x.status(-1), 0);
  }

  private static void faultOfEnd() {
    due.by("or how many bytes there are if it ends too early.");
    fault("", 0);
    fault("   ", 3);
    fault("house", 5);
    fault("house  ", 7);
    fault("fir in", 6);
    fault("fir in   ", 9);
    fault("fir;", 4);
    fault("fir;   ", 7);
    fault("event 1 1", 9);
    fault("event 1 1 ", 10);
  }

  private static void faultsChangeNothing() {
    due.by("With a FAULT: -1 less the FAULT (nothing changes but that THE TAPE is empty; no finding).");
    String[] texts = {"", "oak", "fir;oak", "house 5 loud 9 mood 9;oak", "event 5 0 0;fir;", "each 9;each",
        "fir;fir;fir;fir;fir;fir;fir;fir;fir", "fir in 5 grain 9 tone 9 ;house 0 loud 0;each 61"};
    int[] answers = {-1, -1, -5, -23, -17, -12, -13, -46};
    for (int i = 0; i < texts.length; i++) {
      String text = texts[i];
      Twins wiped = new Twins(due, () -> {
        ListenWood x = Twins.furnished();
        x.wipe();
        return x;
      });
      wiped.told("text '" + text + "'", answers[i], x -> Due.text(x, text));
    }
  }

  private static void textIsSo() {
    due.by("THE TAPE is a TEXT, and empty then; all that it tells is so, item by item: how many ITEMS.");
    ListenWood x = new ListenWood();
    String twice = "each 5;each 6;house 1 loud 1;house 1 loud 2;event 0 1 1;event 0 2 2";
    due.is("the later counts", Due.text(x, twice), 6);
    due.is("each", x.each(30), 6);
    due.is("loud", x.houseOf(1, 0), 2);
    due.is("event", x.listed(0), 202);
    due.is("empty then", x.count(5), 0);
    due.is("empty is no text", x.text(), -1);
    x.plank(3, 2);
    due.is("behind those that stand there", Due.text(x, "ebony in 2;deal in 2"), 2);
    due.is("the pear hears both", x.of(0, 7), 5);
    due.is("numbers go on", x.of(2, 0), 5);
    // A finding leaves the tape: what came ahead of it is read.
    Due.feed(x, "each ");
    x.feed(0, 5);
    Due.feed(x, "7");
    due.is("as it was fed", x.text(), 1);
    due.is("each 7", x.each(30), 7);
  }
}
