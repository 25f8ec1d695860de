import java.util.Random;

/** All promises: long runs of calls by chance (the same each time), asked of both programs. */
public final class ModelTest {
  private static final int RUNS = 400;
  private static final int CALLS = 500;
  private static final String[] TOKENS = {"plank", "spruce", "maple", "pear", "ebony", "deal", "fir",
      "in", "grain", "tone", "house", "loud", "mood", "event", "each", ";", ";", ";", "oak", "#"};

  private final Random chance;
  private final int run;
  private final ListenWood x = new ListenWood();
  private final OtherWood y = new OtherWood();

  private ModelTest(int run) {
    this.run = run;
    this.chance = new Random(run);
  }

  public static void main(String[] args) {
    int answers = 0;
    for (int run = 0; run < RUNS; run++) {
      ModelTest test = new ModelTest(run);
      for (int i = 0; i < CALLS && test.ask(); i++) {
        answers++;
      }
    }
    System.out.println(answers + " answers of " + RUNS + " runs as the other program's");
  }

  /** Mostly from a to b, now and then just outside, seldom far. */
  private int pick(int a, int b) {
    int dice = chance.nextInt(100);
    if (dice < 2) {
      return a - 1;
    }
    if (dice < 4) {
      return b + 1;
    }
    if (dice < 5) {
      int[] far = {Integer.MIN_VALUE, Integer.MAX_VALUE, chance.nextInt(), -2, 1000};
      return far[chance.nextInt(far.length)];
    }
    if (dice < 12) {
      return a;
    }
    return dice < 19 ? b : a + chance.nextInt(b - a + 1);
  }

  private int plank() {
    int planks = y.count(1);
    return planks == 0 ? pick(0, 1) : pick(0, planks - 1);
  }

  private boolean same(String call, long got, long want) {
    if (got != want) {
      System.out.println("run " + run + ": " + call + " answered " + got + ", due is " + want);
      System.exit(1);
    }
    return true;
  }

  private boolean ask() {
    switch (chance.nextInt(9)) {
      case 0: return askValley();
      case 1: return askYears();
      case 2: return askBillets();
      case 3: return askTold();
      case 4: return askFeuds();
      case 5: return askText();
      case 6: return askSheets();
      case 7: return askImages();
      default: return askAll();
    }
  }

  private boolean askValley() {
    int a, b, c;
    switch (chance.nextInt(8)) {
      case 0:
        a = pick(0, 5); b = pick(0, 1); c = pick(0, b == 0 ? 9 : 99);
        return same("house " + a + " " + b + " " + c, x.house(a, b, c), y.house(a, b, c));
      case 1:
        a = pick(0, 5); b = pick(0, 599);
        return same("event " + a + " " + b, x.event(a, b), y.event(a, b));
      case 2:
        a = chance.nextInt(3) == 0 ? pick(2, 60) : pick(2, 9);
        return same("each " + a, x.each(a), y.each(a));
      case 3:
        a = pick(0, 6); b = pick(0, 5);
        return same("plank " + a + " " + b, x.plank(a, b), y.plank(a, b));
      default:
        a = plank(); b = pick(0, 6);
        c = b >= 0 && b < 7 ? pick(0, OtherWood.MOST[b]) : 0;
        return same("change " + a + " " + b + " " + c, x.change(a, b, c), y.change(a, b, c));
    }
  }

  private boolean askYears() {
    int a, b, c;
    switch (chance.nextInt(7)) {
      case 0:
      case 1:
        a = chance.nextInt(3) == 0 ? pick(1, 60) : pick(1, 5);
        return same("go " + a, x.go(a), y.go(a));
      case 2:
        a = plank(); b = pick(2, 11); c = pick(0, 100);
        return same("ahead " + a + " " + b + " " + c, x.ahead(a, b, c), y.ahead(a, b, c));
      case 3:
        a = pick(0, 100);
        return same("gold " + a, x.gold(a), y.gold(a));
      case 4:
        a = plank();
        return same("rings " + a, x.rings(a), y.rings(a));
      case 5:
        a = plank(); b = chance.nextBoolean() ? pick(0, 9999) : y.now(6) + pick(0, 5);
        return same("taken " + a + " " + b, x.taken(a, b), y.taken(a, b));
      default:
        a = plank(); b = pick(0, 99);
        return same("tuned " + a + " " + b, x.tuned(a, b), y.tuned(a, b));
    }
  }

  private boolean askBillets() {
    int a, b, c;
    switch (chance.nextInt(5)) {
      case 0:
        a = plank(); b = pick(0, 60);
        return same("billet " + a + " " + b, x.billet(a, b), y.billet(a, b));
      case 1:
        a = plank(); b = pick(0, 60);
        return same("kindFor " + a + " " + b, x.kindFor(a, b), y.kindFor(a, b));
      case 2:
        a = pick(0, 5); b = plank(); c = pick(0, 60);
        return same("loudFor " + a + " " + b + " " + c, x.loudFor(a, b, c), y.loudFor(a, b, c));
      case 3:
        a = pick(0, 60);
        return same("eachFor " + a, x.eachFor(a), y.eachFor(a));
      default:
        // Grain near 100, else seldom all ring.
        for (int p = 0; p < y.count(1); p++) {
          int grain = 50 + chance.nextInt(80);
          int age = 10 + chance.nextInt(40);
          same("change", x.change(p, 2, grain), y.change(p, 2, grain));
          same("change", x.change(p, 5, age), y.change(p, 5, age));
        }
        a = pick(0, 5); b = pick(0, 20);
        return same("moveAll " + a + " " + b, x.moveAll(a, b), y.moveAll(a, b));
    }
  }

  /** A sheet that tells what will be, but for some numbers, and then which would do. */
  private boolean askTold() {
    int s = pick(0, 3);
    int plank = plank();
    int n = chance.nextInt(12);
    boolean byGrain = chance.nextBoolean();
    if (chance.nextInt(3) > 0) {
      same("sheet", x.sheet(s, 16, n), y.sheet(s, 16, n));
      for (int i = 0; i < n; i++) {
        int dice = chance.nextInt(40);
        int v = dice < 25 ? y.ahead(plank, byGrain ? 2 : 3, i) : -1;
        if (dice < 25) {
          x.ahead(plank, byGrain ? 2 : 3, i);
        }
        v = dice == 39 ? chance.nextInt(100) : v;
        same("write", x.write(s, i, v), y.write(s, i, v));
      }
    }
    return byGrain
        ? same("fits " + s + " " + plank, x.fits(s, plank), y.fits(s, plank))
        : same("kinds " + s + " " + plank, x.kinds(s, plank), y.kinds(s, plank));
  }

  private boolean askFeuds() {
    int a, b, c, d;
    switch (chance.nextInt(4)) {
      case 0:
        a = pick(1, 20);
        return same("feuds " + a, x.feuds(a), y.feuds(a));
      case 1:
        a = chance.nextInt();
        return same("seed " + a, x.seed(a), y.seed(a));
      default:
        a = plank(); b = chance.nextBoolean() ? pick(0, 99) : pick(0, 12); c = pick(0, 20); d = pick(0, 1);
        return same("odds " + a + " " + b + " " + c + " " + d, x.odds(a, b, c, d), y.odds(a, b, c, d));
    }
  }

  private String item() {
    switch (chance.nextInt(4)) {
      case 0:
        return "house " + pick(0, 5) + (chance.nextBoolean() ? " loud " + pick(0, 9) : "")
            + (chance.nextBoolean() ? " mood " + pick(0, 99) : "");
      case 1:
        return "event " + pick(0, 5) + " " + pick(0, 5) + " " + pick(0, 99);
      case 2:
        return "each " + pick(2, 60);
      default:
        return OtherWood.WORDS.get(chance.nextInt(7))
            + (chance.nextBoolean() ? " in " + pick(0, 5) : "")
            + (chance.nextBoolean() ? " grain " + pick(0, 999) : "")
            + (chance.nextBoolean() ? " tone" + pick(0, 99) : "");
    }
  }

  private String words() {
    StringBuilder text = new StringBuilder();
    for (int i = chance.nextInt(8); i > 0; i--) {
      String token = chance.nextInt(3) == 0 ? "" + pick(0, 9) : TOKENS[chance.nextInt(TOKENS.length)];
      text.append(token).append(chance.nextInt(6) == 0 ? "" : " ");
    }
    return text.toString();
  }

  private boolean askText() {
    StringBuilder text = new StringBuilder();
    for (int i = chance.nextInt(4); i > 0; i--) {
      text.append(text.length() == 0 ? "" : chance.nextBoolean() ? ";" : " ; ").append(item());
    }
    if (chance.nextInt(4) == 0) {
      text.append(words());
    }
    if (chance.nextInt(6) == 0 && text.length() > 0) {
      text.setCharAt(chance.nextInt(text.length()), (char) chance.nextInt(256));
    }
    for (int i = 0; i < text.length(); ) {
      int n = Math.min(1 + chance.nextInt(4), text.length() - i);
      int bytes = chance.nextInt();
      for (int k = 0; k < n; k++) {
        bytes = bytes << 8 | text.charAt(i + k);
      }
      same("feed", x.feed(bytes, n), y.feed(bytes, n));
      i += n;
    }
    int odd = pick(1, 4);
    switch (chance.nextInt(12)) {
      case 0: return same("wipe", x.wipe(), y.wipe());
      case 1: return same("feed " + odd, x.feed(odd, odd), y.feed(odd, odd));
      default: return same("text '" + text + "'", x.text(), y.text());
    }
  }

  private boolean askSheets() {
    int a, b, c, d, e;
    int[] bits = {0, 8, 16, 32, 8, 16, 32, 64};
    switch (chance.nextInt(7)) {
      case 0:
        a = pick(0, 9); b = pick(-1, 7);
        return same("hold " + a + " " + b, x.hold(a, b), y.hold(a, b));
      case 1:
        a = pick(0, 9); b = pick(0, 6);
        return same("as " + a + " " + b, x.as(a, b), y.as(a, b));
      case 2:
        a = pick(0, 3); b = bits[chance.nextInt(bits.length)]; c = pick(0, 40);
        return same("sheet " + a + " " + b + " " + c, x.sheet(a, b, c), y.sheet(a, b, c));
      case 3:
        a = pick(0, 3); b = pick(0, 20); c = chance.nextBoolean() ? pick(0, 99) : chance.nextInt();
        return same("write " + a + " " + b + " " + c, x.write(a, b, c), y.write(a, b, c));
      case 4:
        a = pick(0, 3); b = pick(0, 10); c = pick(0, 3); d = pick(0, 10); e = pick(0, 20);
        return same("copy " + a + " " + b + " " + c + " " + d + " " + e,
            x.copy(a, b, c, d, e), y.copy(a, b, c, d, e));
      case 5:
        a = pick(0, 3);
        return same("load " + a, x.load(a), y.load(a));
      default:
        a = pick(0, 3);
        return same("judge " + a, x.judge(a), y.judge(a));
    }
  }

  private boolean askImages() {
    int a;
    switch (chance.nextInt(8)) {
      case 0: return same("image", x.image(), y.image());
      case 1: return same("undo", x.undo(), y.undo());
      case 2: return chance.nextInt(3) > 0 || same("tear", x.tear(), y.tear());
      case 3:
      case 4:
        a = pick(0, 7);
        return same("count " + a, x.count(a), y.count(a));
      case 5:
        a = pick(0, 7);
        return same("now " + a, x.now(a), y.now(a));
      default:
        a = pick(-1, 6);
        return same("status " + a, x.status(a), y.status(a));
    }
  }

  /** All that can be asked without a change, so that a change that went wrong is seen soon. */
  private boolean askAll() {
    for (int i = 0; i < 6; i++) {
      same("listed " + i, x.listed(i), y.listed(i));
      for (int what = 0; what < 3; what++) {
        same("houseOf " + i + " " + what, x.houseOf(i, what), y.houseOf(i, what));
      }
    }
    for (int what = 0; what < 8; what++) {
      same("now " + what, x.now(what), y.now(what));
      same("count " + what, x.count(what), y.count(what));
      same("status " + (what - 1), x.status(what - 1), y.status(what - 1));
    }
    int planks = y.count(1);
    for (int p = 0; p < planks; p++) {
      for (int what = 0; what < 12; what++) {
        same("of " + p + " " + what, x.of(p, what), y.of(p, what));
      }
    }
    int i = pick(0, 5);
    int what = pick(0, 2);
    int p = plank();
    same("listed " + i, x.listed(i), y.listed(i));
    same("of " + p + " " + what, x.of(p, what), y.of(p, what));
    return same("houseOf " + i + " " + what, x.houseOf(i, what), y.houseOf(i, what));
  }
}
