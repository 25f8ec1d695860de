/** A valley of houses in which planks stand and listen, until the makers come for those that ring. */
public final class ListenWood {
  private static final int BEYOND = -1000001;
  private static final int FULL = -1000002;
  private static final int KIND = -1000003;
  private static final int NONE = -1000004;
  private static final int STATE = -1000005;
  private static final int MISSING = -1000006;
  private static final int SIZE = -1000007;
  private static final int FINDINGS = 7;
  /** What a check answers that found nothing wrong: no finding has this value. */
  private static final int FINE = 0;

  private static final int HOUSES = 6;
  private static final int MAX_LOUD = 9;
  private static final int MAX_MOOD = 99;
  private static final int EVENTS = 6;
  private static final int MAX_EVENT = 599;
  private static final int MIN_EACH = 2;
  private static final int MAX_EACH = 60;
  private static final int MAX_GOLD = 99999;
  private static final int MAX_YEAR = 99999;

  private static final int PLANKS = 8;
  private static final int KINDS = 7;
  private static final int SPRUCE = 1;
  private static final int MAPLE = 2;
  private static final int PEAR = 3;
  private static final int EBONY = 4;
  private static final int DEAL = 5;
  private static final int FIR = 6;
  private static final int MAX_GRAIN = 999;
  private static final int MAX_TONE = 99;
  private static final int MAX_CRACKS = 9;
  private static final int MAX_AGE = 9999;
  private static final int MAX_TAKEN = 9999;
  /** By KIND: the KIND that it is under. */
  private static final int[] KIND_ABOVE = {-1, 0, 0, 2, 3, 0, 1};
  /** By what of change(): the greatest that it may become. */
  private static final int[] MAX_OF_PLANK = {6, 5, 999, 99, 9, 9999, 9999};
  private static final int WHATS_OF_PLANK = 12;
  private static final int FETCHES = 11;

  private static final int SPOTS = 10;
  private static final int NOTHING = -1;
  private static final int SHEETS = 4;
  private static final int SHEET_NUMBERS = 40;
  private static final int ANY = -1;
  private static final int TAPE_BYTES = 120;

  private static final int MAX_AHEAD = 100;
  private static final int MAX_SEARCHED = 200;
  private static final int MAX_PLANNED = 60;
  private static final int MAX_MOVED = 20;
  private static final int MAX_FEUDS = 20;

  private final Valley valley = new Valley();
  /** The valley as it would be: made once, since calls that look ahead are many. */
  private final Valley trial = new Valley();
  private final Valley kept = new Valley();
  private boolean isKept = false;
  private final Tape tape = new Tape();
  private final Sheet[] sheets = new Sheet[SHEETS];
  private final int[] findingsTold = new int[FINDINGS];

  public ListenWood() {
    for (int s = 0; s < SHEETS; s++) {
      sheets[s] = new Sheet();
    }
  }

  // ---- valley, planks

  public int house(int house, int what, int v) {
    if (!isHouse(house) || !within(what, 0, 1) || !within(v, 0, what == 0 ? MAX_LOUD : MAX_MOOD)) {
      return finding(BEYOND);
    }
    int[] row = what == 0 ? valley.loud : valley.mood;
    int was = row[house];
    row[house] = v;
    return was;
  }

  public int houseOf(int house, int what) {
    if (!isHouse(house) || !within(what, 0, 2)) {
      return finding(BEYOND);
    }
    if (what == 0) {
      return valley.loud[house];
    }
    return what == 1 ? valley.mood[house] : valley.planksIn(house);
  }

  public int event(int i, int v) {
    if (!within(i, 0, EVENTS - 1) || !within(v, 0, MAX_EVENT)) {
      return finding(BEYOND);
    }
    int was = valley.list[i];
    valley.list[i] = v;
    return was;
  }

  public int listed(int i) {
    return within(i, 0, EVENTS - 1) ? valley.list[i] : finding(BEYOND);
  }

  public int each(int v) {
    if (!within(v, MIN_EACH, MAX_EACH)) {
      return finding(BEYOND);
    }
    int was = valley.each;
    valley.each = v;
    return was;
  }

  public int plank(int kind, int house) {
    if (!within(kind, 0, KINDS - 1) || !isHouse(house)) {
      return finding(BEYOND);
    }
    if (valley.planks >= PLANKS) {
      return finding(FULL);
    }
    return valley.addPlank(kind, house, 0, 0);
  }

  public int of(int plank, int what) {
    if (!isPlank(plank) || !within(what, 0, WHATS_OF_PLANK - 1)) {
      return finding(BEYOND);
    }
    return valley.tell(plank, what);
  }

  public int change(int plank, int what, int v) {
    if (!isPlank(plank) || !within(what, 0, MAX_OF_PLANK.length - 1)
        || !within(v, 0, MAX_OF_PLANK[what])) {
      return finding(BEYOND);
    }
    int[] row = valley.rowOf(what);
    int was = row[plank];
    row[plank] = v;
    return was;
  }

  // ---- years

  public int go(int n) {
    if (!within(n, 1, MAX_PLANNED)) {
      return finding(BEYOND);
    }
    if (valley.year + n > MAX_YEAR) {
      return finding(STATE);
    }
    valley.passYears(n);
    return valley.gold;
  }

  public int now(int what) {
    switch (what) {
      case 0: return valley.year;
      case 1: return valley.gold;
      case 2: return valley.ringing();
      case 3: return valley.sumOf(valley.grain);
      case 4: return valley.sumOf(valley.cracks);
      case 5: return valley.dearest();
      case 6: return valley.sumOf(valley.taken);
      case 7: return valley.makersCome() ? 1 : 0;
      default: return finding(BEYOND);
    }
  }

  // ---- what will be (nothing changes)

  public int ahead(int plank, int what, int n) {
    boolean isForeseen = within(what, 2, 6) || what == FETCHES;
    if (!isPlank(plank) || !isForeseen || !within(n, 0, MAX_AHEAD)) {
      return finding(BEYOND);
    }
    trial.become(valley);
    trial.passYears(n);
    return trial.tell(plank, what);
  }

  public int gold(int n) {
    if (!within(n, 0, MAX_AHEAD)) {
      return finding(BEYOND);
    }
    trial.become(valley);
    trial.passYears(n);
    return trial.gold;
  }

  public int rings(int plank) {
    if (!isPlank(plank)) {
      return finding(BEYOND);
    }
    trial.become(valley);
    for (int n = 0; n <= MAX_SEARCHED; n++) {
      if (trial.isRinging(plank)) {
        return n;
      }
      trial.passYear();
    }
    return finding(NONE);
  }

  public int taken(int plank, int v) {
    if (!isPlank(plank) || !within(v, 0, MAX_TAKEN)) {
      return finding(BEYOND);
    }
    trial.become(valley);
    return yearsUntil(trial.taken, plank, v);
  }

  public int tuned(int plank, int v) {
    if (!isPlank(plank) || !within(v, 0, MAX_TONE)) {
      return finding(BEYOND);
    }
    trial.become(valley);
    return yearsUntil(trial.tone, plank, v);
  }

  // ---- where to billet

  public int billet(int plank, int n) {
    if (!isPlank(plank) || !within(n, 0, MAX_PLANNED)) {
      return finding(BEYOND);
    }
    return dearestChoice(trial.house, HOUSES, plank, n);
  }

  public int kindFor(int plank, int n) {
    if (!isPlank(plank) || !within(n, 0, MAX_PLANNED)) {
      return finding(BEYOND);
    }
    return dearestChoice(trial.kind, KINDS, plank, n);
  }

  public int loudFor(int house, int plank, int n) {
    if (!isHouse(house) || !isPlank(plank) || !within(n, 0, MAX_PLANNED)) {
      return finding(BEYOND);
    }
    for (int loud = 0; loud <= MAX_LOUD; loud++) {
      trial.become(valley);
      trial.loud[house] = loud;
      trial.passYears(n);
      if (trial.isRinging(plank)) {
        return loud;
      }
    }
    return finding(NONE);
  }

  public int eachFor(int n) {
    if (!within(n, 0, MAX_PLANNED)) {
      return finding(BEYOND);
    }
    int best = MIN_EACH;
    int most = -1;
    for (int each = MIN_EACH; each <= MAX_EACH; each++) {
      trial.become(valley);
      trial.each = each;
      trial.passYears(n);
      if (trial.gold > most) {
        best = each;
        most = trial.gold;
      }
    }
    return best;
  }

  public int moveAll(int house, int n) {
    if (!isHouse(house) || !within(n, 0, MAX_MOVED)) {
      return finding(BEYOND);
    }
    int sets = 1 << valley.planks;
    for (int size = 0; size <= valley.planks; size++) {
      for (int set = 0; set < sets; set++) {
        if (Integer.bitCount(set) == size && allRingIfMoved(set, house, n)) {
          return set;
        }
      }
    }
    return finding(NONE);
  }

  // ---- by told grain

  public int fits(int s, int plank) {
    int wrong = wrongSheetOrPlank(s, plank);
    if (wrong != FINE) {
      return finding(wrong);
    }
    return choicesAsTold(trial.house, HOUSES, plank, sheets[s], trial.grain);
  }

  public int kinds(int s, int plank) {
    int wrong = wrongSheetOrPlank(s, plank);
    if (wrong != FINE) {
      return finding(wrong);
    }
    return choicesAsTold(trial.kind, KINDS, plank, sheets[s], trial.tone);
  }

  // ---- feuds

  public int feuds(int n) {
    if (!within(n, 1, MAX_FEUDS)) {
      return finding(BEYOND);
    }
    if (valley.year + n > MAX_YEAR) {
      return finding(STATE);
    }
    for (int i = 0; i < n; i++) {
      valley.feud();
      valley.passYear();
    }
    return valley.gold;
  }

  public long odds(int plank, int v, int n, int what) {
    if (!isPlank(plank) || !within(v, 0, 99) || !within(n, 0, 20) || !within(what, 0, 1)) {
      return finding(BEYOND);
    }
    int such = housesHearing(plank, v);
    // Lowest terms of one draw's odds stay so in every power of them.
    return power(reduced(what == 0 ? such : HOUSES, such, HOUSES), n);
  }

  public int seed(int v) {
    int was = valley.z;
    valley.z = v;
    return was;
  }

  // ---- texts

  public int feed(int bytes, int n) {
    if (!within(n, 1, 4)) {
      return finding(BEYOND);
    }
    if (tape.length + n > TAPE_BYTES) {
      return finding(FULL);
    }
    for (int i = n - 1; i >= 0; i--) {
      tape.append((bytes >>> (8 * i)) & 255);
    }
    return tape.length;
  }

  public int wipe() {
    int was = tape.length;
    tape.length = 0;
    return was;
  }

  public int text() {
    // Items are told to the trial, so that a fault further on leaves the valley as it was.
    trial.become(valley);
    int answer = tape.readText(trial);
    tape.length = 0;
    if (answer > 0) {
      valley.become(trial);
    }
    return answer;
  }

  // ---- spots, sheets

  public int hold(int spot, int plank) {
    if (!isSpot(spot) || (plank != NOTHING && !isPlank(plank))) {
      return finding(BEYOND);
    }
    valley.spots[spot] = plank;
    return 1;
  }

  public int as(int spot, int kind) {
    if (!isSpot(spot) || !within(kind, 0, KINDS - 1)) {
      return finding(BEYOND);
    }
    int plank = valley.spots[spot];
    if (!isPlank(plank)) {
      return finding(MISSING);
    }
    return isKindOrUnder(valley.kind[plank], kind) ? plank : finding(KIND);
  }

  public int sheet(int s, int bits, int n) {
    boolean isWidth = bits == 0 || bits == 8 || bits == 16 || bits == 32;
    if (!isSheet(s) || !isWidth) {
      return finding(BEYOND);
    }
    if (n < 0) {
      return finding(SIZE);
    }
    if (n > SHEET_NUMBERS) {
      return finding(BEYOND);
    }
    sheets[s].begin(bits, n);
    return bits == 0 ? 0 : n;
  }

  public int write(int s, int i, int v) {
    int wrong = wrongSheet(s);
    if (wrong != FINE) {
      return finding(wrong);
    }
    if (!within(i, 0, sheets[s].size - 1)) {
      return finding(BEYOND);
    }
    sheets[s].put(i, v);
    return 1;
  }

  public int copy(int s, int from, int t, int to, int n) {
    if (!isSheet(s) || !isSheet(t)) {
      return finding(BEYOND);
    }
    Sheet source = sheets[s];
    Sheet target = sheets[t];
    if (source.isMissing() || target.isMissing()) {
      return finding(MISSING);
    }
    if (source.bits != target.bits) {
      return finding(KIND);
    }
    if (!source.hasRange(from, n) || !target.hasRange(to, n)) {
      return finding(BEYOND);
    }
    System.arraycopy(source.numbers, from, target.numbers, to, n);
    return n;
  }

  public int load(int s) {
    int wrong = wrongSheet(s);
    if (wrong != FINE) {
      return finding(wrong);
    }
    Sheet sheet = sheets[s];
    int came = 0;
    while (came < sheet.size && came < HOUSES && within(sheet.numbers[came], 0, MAX_MOOD)) {
      valley.mood[came] = sheet.numbers[came];
      came++;
    }
    return came;
  }

  public int judge(int s) {
    int wrong = wrongSheet(s);
    if (wrong != FINE) {
      return finding(wrong);
    }
    Sheet sheet = sheets[s];
    for (int i = 0; i < sheet.size; i++) {
      if (!isPlank(i) || sheet.numbers[i] != valley.tone[i]) {
        return 1 + i;
      }
    }
    return 0;
  }

  // ---- images

  public int image() {
    kept.become(valley);
    isKept = true;
    return 1;
  }

  public int undo() {
    if (!isKept) {
      return finding(NONE);
    }
    valley.become(kept);
    return valley.year;
  }

  public int tear() {
    int was = isKept ? 1 : 0;
    isKept = false;
    return was;
  }

  public int count(int what) {
    switch (what) {
      case 0: return valley.year;
      case 1: return valley.planks;
      case 2: return valley.gold;
      case 3: return valley.sumOf(valley.grain);
      case 4: return valley.sumOf(valley.taken);
      case 5: return tape.length;
      case 6: return valley.z;
      case 7: return valley.spotsHolding();
      default: return finding(BEYOND);
    }
  }

  public int status(int which) {
    if (!within(which, -1, FINDINGS - 1)) {
      return finding(BEYOND);
    }
    if (which >= 0) {
      return findingsTold[which];
    }
    int all = 0;
    for (int f = 0; f < FINDINGS; f++) {
      all += findingsTold[f];
    }
    return all;
  }

  // ---- what the calls share

  /** Counts a finding where it is made: an answer alone doesn't tell, since z may be any int. */
  private int finding(int finding) {
    int which = BEYOND - finding;
    if (within(which, 0, FINDINGS - 1)) {
      findingsTold[which]++;
    }
    return finding;
  }

  private static boolean within(int v, int least, int most) {
    return v >= least && v <= most;
  }

  private static boolean isHouse(int house) {
    return within(house, 0, HOUSES - 1);
  }

  private static boolean isSpot(int spot) {
    return within(spot, 0, SPOTS - 1);
  }

  private static boolean isSheet(int s) {
    return within(s, 0, SHEETS - 1);
  }

  private boolean isPlank(int plank) {
    return within(plank, 0, valley.planks - 1);
  }

  private int wrongSheet(int s) {
    if (!isSheet(s)) {
      return BEYOND;
    }
    return sheets[s].isMissing() ? MISSING : FINE;
  }

  private int wrongSheetOrPlank(int s, int plank) {
    int wrong = wrongSheet(s);
    if (wrong != FINE) {
      return wrong;
    }
    return isPlank(plank) ? FINE : BEYOND;
  }

  /** Behind how many YEARS of the trial a PLANK's number in one of the trial's rows is v or more. */
  private int yearsUntil(int[] row, int plank, int v) {
    for (int n = 0; n <= MAX_SEARCHED; n++) {
      if (row[plank] >= v) {
        return n;
      }
      trial.passYear();
    }
    return finding(NONE);
  }

  /** The number for a PLANK in one of the trial's rows, with which GOLD is most behind n YEARS. */
  private int dearestChoice(int[] row, int choices, int plank, int n) {
    int best = 0;
    int most = -1;
    for (int c = 0; c < choices; c++) {
      trial.become(valley);
      row[plank] = c;
      trial.passYears(n);
      if (trial.gold > most) {
        best = c;
        most = trial.gold;
      }
    }
    return best;
  }

  private boolean allRingIfMoved(int set, int house, int n) {
    trial.become(valley);
    for (int p = 0; p < trial.planks; p++) {
      if ((set >> p & 1) == 1) {
        trial.house[p] = house;
      }
    }
    trial.passYears(n);
    return trial.ringing() == (1 << trial.planks) - 1;
  }

  /** The numbers for a PLANK in the row chosen, with which the row shown goes as a sheet tells. */
  private int choicesAsTold(int[] chosen, int choices, int plank, Sheet sheet, int[] shown) {
    int set = 0;
    for (int c = 0; c < choices; c++) {
      trial.become(valley);
      chosen[plank] = c;
      if (goesAsTold(sheet, shown, plank)) {
        set |= 1 << c;
      }
    }
    return set;
  }

  private boolean goesAsTold(Sheet sheet, int[] row, int plank) {
    for (int i = 0; i < sheet.size; i++) {
      if (i > 0) {
        trial.passYear();
      }
      int told = sheet.numbers[i];
      if (told != ANY && told != row[plank]) {
        return false;
      }
    }
    return true;
  }

  private int housesHearing(int plank, int v) {
    int such = 0;
    trial.become(valley);
    for (int h = 0; h < HOUSES; h++) {
      trial.house[plank] = h;
      if (trial.hearing(plank) >= v) {
        such++;
      }
    }
    return such;
  }

  /** A part of the fraction a / b (b is 1 or more), as it is in lowest terms. */
  private static int reduced(int part, int a, int b) {
    for (int d = b; d > 1; d--) {
      if (a % d == 0 && b % d == 0) {
        return part / d;
      }
    }
    return part;
  }

  private static long power(int base, int n) {
    long product = 1;
    for (int i = 0; i < n; i++) {
      product *= base;
    }
    return product;
  }

  private static boolean isKindOrUnder(int kind, int above) {
    int k = kind;
    for (int i = 0; i < KINDS && within(k, 0, KINDS - 1); i++) {
      if (k == above) {
        return true;
      }
      k = KIND_ABOVE[k];
    }
    return false;
  }

  /** All that an image keeps: houses, list, planks, spots, years, draws. */
  private static final class Valley {
    final int[] loud = new int[HOUSES];
    final int[] mood = new int[HOUSES];
    final int[] list = new int[EVENTS];
    int each = 30;
    int gold = 0;
    int year = 0;
    int z = 1;
    int planks = 0;
    final int[] kind = new int[PLANKS];
    final int[] house = new int[PLANKS];
    final int[] grain = new int[PLANKS];
    final int[] tone = new int[PLANKS];
    final int[] cracks = new int[PLANKS];
    final int[] age = new int[PLANKS];
    final int[] taken = new int[PLANKS];
    final int[] spots = new int[SPOTS];

    Valley() {
      for (int h = 0; h < HOUSES; h++) {
        loud[h] = 3;
        mood[h] = 50;
      }
      for (int i = 0; i < EVENTS; i++) {
        list[i] = 50;
      }
      for (int s = 0; s < SPOTS; s++) {
        spots[s] = NOTHING;
      }
    }

    void become(Valley other) {
      System.arraycopy(other.loud, 0, loud, 0, HOUSES);
      System.arraycopy(other.mood, 0, mood, 0, HOUSES);
      System.arraycopy(other.list, 0, list, 0, EVENTS);
      each = other.each;
      gold = other.gold;
      year = other.year;
      z = other.z;
      planks = other.planks;
      System.arraycopy(other.kind, 0, kind, 0, PLANKS);
      System.arraycopy(other.house, 0, house, 0, PLANKS);
      System.arraycopy(other.grain, 0, grain, 0, PLANKS);
      System.arraycopy(other.tone, 0, tone, 0, PLANKS);
      System.arraycopy(other.cracks, 0, cracks, 0, PLANKS);
      System.arraycopy(other.age, 0, age, 0, PLANKS);
      System.arraycopy(other.taken, 0, taken, 0, PLANKS);
      System.arraycopy(other.spots, 0, spots, 0, SPOTS);
    }

    /** Answers the new PLANK's number; NOTHING if there are as many as may be. */
    int addPlank(int newKind, int newHouse, int newGrain, int newTone) {
      if (planks >= PLANKS) {
        return NOTHING;
      }
      int p = planks;
      kind[p] = newKind;
      house[p] = newHouse;
      grain[p] = newGrain;
      tone[p] = newTone;
      cracks[p] = 0;
      age[p] = 0;
      taken[p] = 0;
      planks++;
      return p;
    }

    /** By what of change(), which is 0 to 6. */
    int[] rowOf(int what) {
      switch (what) {
        case 0: return kind;
        case 1: return house;
        case 2: return grain;
        case 3: return tone;
        case 4: return cracks;
        case 5: return age;
        default: return taken;
      }
    }

    /** By what of of(), which is 0 to 11. */
    int tell(int p, int what) {
      switch (what) {
        case 7: return hearing(p);
        case 8: return following(p);
        case 9: return isRinging(p) ? 1 : 0;
        case 10: return splitting(p);
        case FETCHES: return fetching(p);
        default: return rowOf(what)[p];
      }
    }

    int hearing(int p) {
      int loudHere = loud[house[p]];
      switch (kind[p]) {
        case SPRUCE: return 2 * loudHere;
        case FIR: return Math.max(0, 2 * loudHere - 1);
        case MAPLE: return hearingOfMaple(loudHere);
        case PEAR: return hearingOfMaple(loudHere) + othersBeside(p);
        case EBONY: return 1;
        case DEAL: return mood[house[p]] < 30 ? 0 : loudHere;
        default: return loudHere;
      }
    }

    private static int hearingOfMaple(int loudHere) {
      return loudHere <= 2 ? loudHere + 4 : loudHere;
    }

    private int othersBeside(int p) {
      return Integer.bitCount(planksIn(house[p])) - 1;
    }

    int following(int p) {
      int gap = mood[house[p]] - tone[p];
      switch (kind[p]) {
        case SPRUCE:
        case FIR: return gap / 5;
        case MAPLE: return followingOfMaple(gap);
        case PEAR: return 2 * followingOfMaple(gap);
        case EBONY: return 0;
        default: return gap / 10;
      }
    }

    private static int followingOfMaple(int gap) {
      return gap > 0 ? gap / 10 + 1 : gap / 10;
    }

    boolean isRinging(int p) {
      boolean ringsAsPlank = grain[p] >= 100;
      boolean ringsAsSpruce = ringsAsPlank || (grain[p] >= 60 && tone[p] >= 30);
      switch (kind[p]) {
        case SPRUCE: return ringsAsSpruce;
        case FIR: return ringsAsSpruce && cracks[p] <= 2;
        case PEAR: return ringsAsPlank && age[p] >= 20;
        case EBONY: return age[p] >= 40;
        case DEAL: return false;
        default: return ringsAsPlank;
      }
    }

    int splitting(int p) {
      int asPlank = loud[house[p]] >= 8 && year % 5 == 0 ? 1 : 0;
      switch (kind[p]) {
        case FIR: return tone[p] == 0 ? asPlank + 1 : asPlank;
        case EBONY: return 0;
        case DEAL: return year % 2;
        default: return asPlank;
      }
    }

    int fetching(int p) {
      int asPlank = Math.max(0, grain[p] / 10 + tone[p] - 5 * cracks[p]);
      switch (kind[p]) {
        case SPRUCE:
        case FIR: return 2 * asPlank;
        case MAPLE:
        case PEAR: return asPlank + 10;
        case EBONY: return 3 * (asPlank + 10);
        case DEAL: return 1;
        default: return asPlank;
      }
    }

    void passYears(int n) {
      for (int i = 0; i < n; i++) {
        passYear();
      }
    }

    void passYear() {
      int happening = list[year % EVENTS];
      mood[happening / 100] = happening % 100;
      for (int p = 0; p < planks; p++) {
        grow(p);
      }
      if (makersCome()) {
        for (int p = 0; p < planks; p++) {
          offer(p);
        }
      }
      year = Math.min(MAX_YEAR, year + 1);
    }

    private void grow(int p) {
      // All three are asked first: each goes by the plank as it was ahead of them.
      int heard = hearing(p);
      int followed = following(p);
      int split = splitting(p);
      grain[p] = Math.min(MAX_GRAIN, grain[p] + heard);
      tone[p] = Math.max(0, Math.min(MAX_TONE, tone[p] + followed));
      cracks[p] = Math.min(MAX_CRACKS, cracks[p] + split);
      age[p] = Math.min(MAX_AGE, age[p] + 1);
    }

    boolean makersCome() {
      return each > 0 && year % each == 0;
    }

    private void offer(int p) {
      if (!isRinging(p)) {
        return;
      }
      gold = Math.min(MAX_GOLD, gold + fetching(p));
      taken[p] = Math.min(MAX_TAKEN, taken[p] + 1);
      grain[p] = 0;
      tone[p] = 0;
      cracks[p] = 0;
      age[p] = 0;
    }

    private int draw() {
      z = z * 1103515245 + 12345;
      return z >>> 8;
    }

    void feud() {
      int h = draw() % HOUSES;
      mood[h] = mood[h] / 2;
      loud[h] = draw() % 10;
      int p = draw() % PLANKS;
      if (p < planks) {
        house[p] = (house[p] + 1) % HOUSES;
      }
    }

    int planksIn(int h) {
      int set = 0;
      for (int p = 0; p < planks; p++) {
        if (house[p] == h) {
          set |= 1 << p;
        }
      }
      return set;
    }

    int ringing() {
      int set = 0;
      for (int p = 0; p < planks; p++) {
        if (isRinging(p)) {
          set |= 1 << p;
        }
      }
      return set;
    }

    int dearest() {
      int best = NOTHING;
      int most = -1;
      for (int p = 0; p < planks; p++) {
        if (fetching(p) > most) {
          best = p;
          most = fetching(p);
        }
      }
      return best;
    }

    int sumOf(int[] row) {
      int sum = 0;
      for (int p = 0; p < planks; p++) {
        sum += row[p];
      }
      return sum;
    }

    int spotsHolding() {
      int holding = 0;
      for (int s = 0; s < SPOTS; s++) {
        if (spots[s] != NOTHING) {
          holding++;
        }
      }
      return holding;
    }
  }

  /** A row of numbers of so many bits; of 0 bits it is MISSING. */
  private static final class Sheet {
    int bits = 0;
    int size = 0;
    final int[] numbers = new int[SHEET_NUMBERS];

    boolean isMissing() {
      return bits == 0;
    }

    void begin(int newBits, int n) {
      bits = newBits;
      size = newBits == 0 ? 0 : Math.min(n, SHEET_NUMBERS);
      for (int i = 0; i < SHEET_NUMBERS; i++) {
        numbers[i] = 0;
      }
    }

    void put(int i, int v) {
      if (bits == 8) {
        numbers[i] = (byte) v;
      } else if (bits == 16) {
        numbers[i] = (short) v;
      } else {
        numbers[i] = v;
      }
    }

    /** By a difference: from and n together might be above what an int holds. */
    boolean hasRange(int from, int n) {
      return from >= 0 && n >= 0 && n <= size && from <= size - n;
    }
  }

  /** The bytes of THE TAPE, and the reader that takes them for a TEXT, token by token. */
  private static final class Tape {
    private static final int END = 0;
    private static final int WORD = 1;
    private static final int NUMBER = 2;
    private static final int SIGN = 3;
    private static final int NO_TOKEN = 4;
    private static final int MAX_NUMBER = 999;
    private static final int FAULTY = -1;

    final int[] bytes = new int[TAPE_BYTES];
    int length = 0;
    /** The token that is to be taken next: what it is, from where on, to ahead of where. */
    private int token = END;
    private int start = 0;
    private int end = 0;
    /** What the NUMBER taken latest told. */
    private int told = 0;

    void append(int b) {
      if (length < TAPE_BYTES) {
        bytes[length] = b;
        length++;
      }
    }

    /** Answers how many ITEMS were told to the valley, or -1 less the FAULT. */
    int readText(Valley valley) {
      end = 0;
      nextToken();
      for (int items = 1; items <= TAPE_BYTES; items++) {
        // A token that can't stand there is not taken, so it begins where the FAULT is.
        if (!readItem(valley)) {
          return -1 - start;
        }
        if (token == END) {
          return items;
        }
        if (token != SIGN) {
          return -1 - start;
        }
        nextToken();
      }
      return -1 - start;
    }

    private boolean readItem(Valley valley) {
      for (int kind = 0; kind < KINDS; kind++) {
        if (isWord(wordOfKind(kind))) {
          return readPlank(valley, kind);
        }
      }
      if (isWord("house")) {
        return readHouse(valley);
      }
      if (isWord("event")) {
        return readEvent(valley);
      }
      return isWord("each") && readEach(valley);
    }

    private static String wordOfKind(int kind) {
      switch (kind) {
        case SPRUCE: return "spruce";
        case MAPLE: return "maple";
        case PEAR: return "pear";
        case EBONY: return "ebony";
        case DEAL: return "deal";
        case FIR: return "fir";
        default: return "plank";
      }
    }

    private boolean readPlank(Valley valley, int kind) {
      if (valley.planks >= PLANKS) {
        return false;
      }
      nextToken();
      int house = perhaps("in", HOUSES - 1, 0);
      if (house == FAULTY) {
        return false;
      }
      int grain = perhaps("grain", MAX_GRAIN, 0);
      if (grain == FAULTY) {
        return false;
      }
      int tone = perhaps("tone", MAX_TONE, 0);
      if (tone == FAULTY) {
        return false;
      }
      valley.addPlank(kind, house, grain, tone);
      return true;
    }

    private boolean readHouse(Valley valley) {
      nextToken();
      if (!takeNumber(0, HOUSES - 1)) {
        return false;
      }
      int house = told;
      int loud = perhaps("loud", MAX_LOUD, valley.loud[house]);
      if (loud == FAULTY) {
        return false;
      }
      int mood = perhaps("mood", MAX_MOOD, valley.mood[house]);
      if (mood == FAULTY) {
        return false;
      }
      valley.loud[house] = loud;
      valley.mood[house] = mood;
      return true;
    }

    private boolean readEvent(Valley valley) {
      nextToken();
      if (!takeNumber(0, EVENTS - 1)) {
        return false;
      }
      int place = told;
      if (!takeNumber(0, HOUSES - 1)) {
        return false;
      }
      int house = told;
      if (!takeNumber(0, MAX_MOOD)) {
        return false;
      }
      valley.list[place] = 100 * house + told;
      return true;
    }

    private boolean readEach(Valley valley) {
      nextToken();
      if (!takeNumber(MIN_EACH, MAX_EACH)) {
        return false;
      }
      valley.each = told;
      return true;
    }

    /** Answers the NUMBER behind a WORD, what holds without that WORD, or FAULTY. */
    private int perhaps(String word, int most, int without) {
      if (!isWord(word)) {
        return without;
      }
      nextToken();
      return takeNumber(0, most) ? told : FAULTY;
    }

    private boolean takeNumber(int least, int most) {
      if (token != NUMBER) {
        return false;
      }
      int number = numberTold();
      if (number < least || number > most) {
        return false;
      }
      told = number;
      nextToken();
      return true;
    }

    /** Held just above the greatest that may be told, since the digits may be many. */
    private int numberTold() {
      int number = 0;
      for (int i = start; i < end; i++) {
        number = Math.min(MAX_NUMBER + 1, 10 * number + bytes[i] - '0');
      }
      return number;
    }

    private boolean isWord(String word) {
      if (token != WORD || word.length() != end - start) {
        return false;
      }
      for (int i = 0; i < word.length(); i++) {
        if (bytes[start + i] != word.charAt(i)) {
          return false;
        }
      }
      return true;
    }

    private void nextToken() {
      start = end;
      while (start < length && bytes[start] == ' ') {
        start++;
      }
      int wordEnd = endOfThose('a', 'z');
      int numberEnd = endOfThose('0', '9');
      if (start >= length) {
        token = END;
        end = start;
      } else if (wordEnd > start) {
        token = WORD;
        end = wordEnd;
      } else if (numberEnd > start) {
        token = NUMBER;
        end = numberEnd;
      } else {
        token = bytes[start] == ';' ? SIGN : NO_TOKEN;
        end = start + 1;
      }
    }

    /** Where the bytes from one to another, of which as many as can be stand at start, are over. */
    private int endOfThose(int from, int to) {
      int i = start;
      while (i < length && bytes[i] >= from && bytes[i] <= to) {
        i++;
      }
      return i;
    }
  }
}
