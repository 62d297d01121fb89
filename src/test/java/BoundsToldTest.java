/** Promises 16 to 22: tells, film, drawn, chance, image, back, count. */
public final class BoundsToldTest extends Bounds {
  public static void main(String[] args) throws Exception { runAll(BoundsToldTest.class, 16, 22); }

  private static final String SHORT = "views 0;warms 0;minds 0;";

  private static RoundTheModel ruledOne(String views, int easel) {
    RoundTheModel x = ruled("views " + views + ";warms 0;minds 0;");
    x.painter(0, 0, easel);
    return x;
  }

  /** What is told of a row of ints. */
  private static void told(String call, RoundTheModel x, int turnStep, int what, int want, int... row) {
    fill(x, 0, 2, row);
    is(call, x.tells(0, 0, turnStep, what), want);
  }

  // ---- 16: tells

  static void p16_sheetIs0To3() {
    RoundTheModel x = new RoundTheModel();
    seatPaid(x, 0);
    for (int sheet : new int[] {0, 3}) {
      fill(x, sheet, 2, 1);
      is("tells(" + sheet + ", ..)", x.tells(sheet, 0, 0, 0), NONE);
    }
    for (int what = 0; what < 8; what++) {
      int which = what;
      unfeltOf("tells(.., " + what + ")", Bounds::studio, (y, sheet) -> y.tells(sheet, 0, 0, which), BAD, -1, 4, MIN, MAX);
    }
  }

  static void p16_painterIsOneOfThem() {
    unfeltOf("tells", Bounds::studio, (y, who) -> y.tells(0, who, 0, 0), BAD, -1, 4, 5, 6, MIN, MAX);
    unfeltOf("tells", Bounds::crowded, (y, who) -> y.tells(0, who, 0, 7), BAD, -1, 6);
    RoundTheModel x = new RoundTheModel();
    x.sheet(0, 0, 1);
    is("nobody", x.tells(0, 0, 0, 0), BAD);
    seatPaid(x, 1, 2, 3, 4, 5, 6);
    is("the first", x.tells(0, 0, 0, 0), 0);
    is("the last", x.tells(0, 5, 0, 0), 0);
  }

  static void p16_turnStep() {
    unfeltOf("tells", Bounds::studio, (y, t) -> y.tells(0, 0, t, 0), BAD, -1, 11, 99, 111, 1011, 1100, MIN, MAX);
    RoundTheModel x = ruledOne("side", 0);
    told("by 10 and 10", x, 1010, 0, NONE, 0, 0, 0);
    told("by no turn and 10", x, 10, 0, NONE, 0, 10, 9);
    told("by 10 and no step", x, 1000, 0, NONE, 0, 1, 2);
  }

  static void p16_whatIs0To7() {
    unfeltOf("tells", Bounds::studio, (y, what) -> y.tells(0, 0, 0, what), BAD, -1, 8, 9, MIN, MAX);
  }

  static void p16_missing() {
    for (int what = 0; what < 8; what++) {
      int which = what;
      unfelt("tells(3, .., " + what + ")", Bounds::studio, y -> y.tells(3, 0, 0, which), NOTHING);
    }
  }

  static void p16_badIsAheadOfMissing() {
    unfelt("painter", Bounds::studio, y -> y.tells(3, 4, 0, 0), BAD);
    unfelt("turnStep", Bounds::studio, y -> y.tells(3, 0, 11, 0), BAD);
    unfelt("what", Bounds::studio, y -> y.tells(3, 0, 0, 8), BAD);
  }

  static void p16_tells20AtMost() {
    RoundTheModel x = new RoundTheModel();
    seatPaid(x, 0);
    for (int sort = 0; sort < 3; sort++) {
      x.sheet(sort, sort, 20);
      for (int i = 0; i < 20; i++) x.cell(sort, i, 1);
      is("20 of sort " + sort, x.tells(sort, 0, 0, 0), NONE);
      is("KINDS", x.tells(sort, 0, 0, 1) & 32, 32);
    }
    for (int what = 0; what < 8; what++) {
      int which = what;
      unfeltOf("tells what " + what + " of", Bounds::studio, (y, n) -> { y.sheet(3, 1, n); long a = y.tells(3, 0, 0, which); y.sheet(3, -1, 0); return a; }, BAD, 21, 22, 40);
    }
  }

  static void p16_tellsNothing() {
    RoundTheModel x = new RoundTheModel();
    seatPaid(x, 4, 0, 10);
    Due.read(x, SHORT);
    x.sheet(2, 0, 0);
    int[] want = {NONE, 63, 1023, 2047 - 1 - 1024, 2047, 2047, 2047, 3};
    for (int what = 0; what < 8; what++) is("what " + what, x.tells(2, 0, 0, what), want[what]);
  }

  static void p16_theFirstFrom0() {
    RoundTheModel x = new RoundTheModel();
    seatPaid(x, 0);
    x.sheet(0, 2, 20);
    for (int i = 0; i < 20; i++) {
      is("the first", x.tells(0, 0, 0, 0), i);
      x.cell(0, i, 1);
    }
    is("none", x.tells(0, 0, 0, 0), NONE);
    for (int i = 19; i >= 0; i--) {
      x.cell(0, i, i % 2 == 0 ? 0 : 2);
      is("the first of more", x.tells(0, 0, 0, 0), i);
    }
  }

  static void p16_kinds() {
    RoundTheModel x = ruled("views 50;warms 20;minds 5;");
    x.painter(0, 0, 0);
    // STOVE AWAY 5, LAMP here, SIDE 0: 65, LEFT and LATE 50 + 20 - 6, TALL 52 + 20, OLD 52 + 40, PAID 1
    told("KINDS of 65", x, 0, 1, 1, 65);
    told("KINDS of 64", x, 0, 1, 2 + 8, 64);
    told("KINDS of 72", x, 0, 1, 4, 72);
    told("KINDS of 92", x, 0, 1, 16, 92);
    told("KINDS of 1", x, 0, 1, 32, 1);
    told("KINDS of 2", x, 0, 1, 0, 2);
    told("KINDS of 65 and 1", x, 0, 1, 0, 65, 1);
    is("the KIND stays", x.told(0, 6), 0);
  }

  static void p16_numbers() {
    RoundTheModel x = ruledOne("number", 0);
    for (int n = 0; n < 10; n++) told("NUMBERS of " + n, x, 0, 2, 1 << n, n);
    told("NUMBERS of 10", x, 0, 2, 0, 10);
    told("NUMBERS of -1", x, 0, 2, 0, -1);
    is("the NUMBER stays", x.told(0, 4), 0);
  }

  static void p16_easels() {
    RoundTheModel x = ruledOne("side", 4);
    for (int e = 0; e < 11; e++) told("EASELS of " + e, x, 0, 3, 1 << e, e);
    told("EASELS of 11", x, 0, 3, 0, 11);
    seatPaid(x, 0, 10);
    told("EASELS of 0, taken", x, 0, 3, 0, 0);
    told("EASELS of 10, taken", x, 0, 3, 0, 10);
    told("EASELS of one's own", x, 0, 3, 16, 4);
    // who sits at 9 goes to 10, and who sits at 10 goes to 0: this is of now
    told("EASELS that lead round", x, 1, 3, 512, 9, 10, 0);
    is("the EASEL stays", x.told(0, 5), 4);
  }

  static void p16_faces() {
    RoundTheModel x = ruledOne("side", 0);
    for (int f = 0; f < 11; f++) told("FACES of SIDE " + (11 - f) % 11, x, 0, 4, 1 << f, (11 - f) % 11);
    told("FACES of 11", x, 0, 4, 0, 11);
    told("FACES by a turn", x, 100, 4, 1 << 10, 1, 0, 10);
    is("FACE stays", x.told(0, 0), 0);
  }

  static void p16_lamps() {
    for (int e = 0; e < 11; e++) told("LAMPS of 0 at " + e, ruledOne("lamp", e), 0, 5, 1 << e, 0);
    told("LAMPS of 1 at 0", ruledOne("lamp", 0), 0, 5, 2 + 1024, 1);
    told("LAMPS of 5 at 0", ruledOne("lamp", 0), 0, 5, 32 + 64, 5);
    told("LAMPS of 6 at 0", ruledOne("lamp", 0), 0, 5, 0, 6);
    told("LAMPS of 5, 5 and 4 by a step", ruledOne("lamp", 10), 1, 5, 32, 5, 5, 4);
  }

  static void p16_stoves() {
    for (int e = 0; e < 11; e++) told("STOVES of 0 at " + e, ruledOne("stove", e), 0, 6, 1 << e, 0);
    told("STOVES of 1 at 10", ruledOne("stove", 10), 0, 6, 1 + 512, 1);
    told("STOVES of 5 at 10", ruledOne("stove", 10), 0, 6, 16 + 32, 5);
    told("STOVES of 6 at 10", ruledOne("stove", 10), 0, 6, 0, 6);
  }

  static void p16_texts() {
    RoundTheModel x = new RoundTheModel();
    x.painter(0, 0, 0);
    told("TEXTS of 10 by one", x, 0, 7, 1, 10);
    told("TEXTS of 11 by one", x, 0, 7, 0, 11);
    for (int i = 1; i < 6; i++) {
      Due.read(x, "views " + (10 + i) + ";warms 0;minds 0;");
      told("TEXTS of " + (10 + i), x, 0, 7, 1 << i, 10 + i);
      told("TEXTS of " + (11 + i), x, 0, 7, 0, 11 + i);
    }
    x.sheet(0, 2, 0);
    is("TEXTS with none told", x.tells(0, 0, 0, 7), 63);
    is("THE RULE stays", x.count(5), 0);
  }

  static void p16_posePasses999InThought() {
    RoundTheModel x = ruledOne("pose-990", 0);
    x.set(3, 0, 999);
    told("from 999 on", x, 0, 0, NONE, 9, 10, 11);
    is("POSE", x.count(1), 999);
  }

  static void p16_inThoughtAlone() {
    for (int what = 0; what < 8; what++) {
      int which = what;
      RoundTheModel x = new RoundTheModel();
      studio(x);
      unfelt("tells(1, 0, 102, " + what + ")", Bounds::studio, y -> y.tells(1, 0, 102, which), x.tells(1, 0, 102, which));
      unfelt("tells(1, 3, 1007, " + what + ")", Bounds::studio, y -> y.tells(1, 3, 1007, which), x.tells(1, 3, 1007, which));
    }
  }

  // ---- 17: film

  static void p17_nIs0To20() {
    RoundTheModel x = new RoundTheModel();
    seatPaid(x, 0);
    for (int n : new int[] {0, 1, 19, 20}) {
      is("film of " + n, x.film(3, 0, 0, n), n);
      is("so many", sizeOf(x, 3), n);
      is("shorts", sortOf(x, 3), 1);
      is("as it is", x.tells(3, 0, 0, 0), NONE);
    }
    unfeltOf("film of", Bounds::studio, (y, n) -> y.film(1, 1, 0, n), BAD, -1, 21, 40, 41, MIN, MAX);
    unfeltOf("film to a missing one of", Bounds::studio, (y, n) -> y.film(3, 1, 0, n), BAD, -1, 21);
  }

  static void p17_sheetIs0To3() {
    RoundTheModel x = new RoundTheModel();
    seatPaid(x, 0);
    for (int sheet = 0; sheet < 4; sheet++) {
      is("film to " + sheet, x.film(sheet, 0, 0, 3), 3);
      is("so many", sizeOf(x, sheet), 3);
      is("the next is missing", sheet < 3 ? sizeOf(x, sheet + 1) : -1, -1);
    }
    unfeltOf("film to", Bounds::studio, (y, sheet) -> y.film(sheet, 0, 0, 3), BAD, -1, 4, MIN, MAX);
  }

  static void p17_painterIsOneOfThem() {
    unfeltOf("film of", Bounds::studio, (y, who) -> y.film(0, who, 0, 3), BAD, -1, 4, 5, 6, MIN, MAX);
    unfeltOf("film of", Bounds::crowded, (y, who) -> y.film(0, who, 0, 3), BAD, -1, 6);
    RoundTheModel x = new RoundTheModel();
    is("nobody", x.film(0, 0, 0, 0), BAD);
    is("missing", sizeOf(x, 0), -1);
    seatPaid(x, 1, 2, 3, 4, 5, 6);
    is("the first", x.film(0, 0, 0, 1), 1);
    is("the last", x.film(0, 5, 0, 1), 1);
  }

  static void p17_turnStep() {
    unfeltOf("film by", Bounds::studio, (y, t) -> y.film(0, 0, t, 3), BAD, -1, 11, 99, 111, 1011, 1100, MIN, MAX);
    unfeltOf("film of none by", Bounds::studio, (y, t) -> y.film(0, 0, t, 0), BAD, -1, 11, 1100);
    RoundTheModel x = ruledOne("side", 0);
    x.film(0, 0, 10, 3);
    x.sheet(1, 1, 3);
    x.cell(1, 1, 10);
    x.cell(1, 2, 9);
    x.copy(0, 0, 1, 0, 2);
    is("by no turn and 10", x.tells(1, 0, 10, 0), NONE);
    int[] by = {0, 1, 100, 110, 1000, 1010, 10};
    int[][] want = {{0, 0, 0}, {0, 1, 2}, {0, 10, 9}, {0, 9, 7}, {0, 1, 2}, {0, 0, 0}, {0, 10, 9}};
    for (int i = 0; i < by.length; i++) {
      x.film(0, 0, by[i], 3);
      fill(x, 1, 1, want[i]);
      is("as by hand, by " + by[i], x.tells(1, 0, by[i], 0), NONE);
      is("as filmed, by " + by[i], x.tells(0, 0, by[i], 0), NONE);
    }
  }

  static void p17_becomesShortsWhateverItWas() {
    for (int sort = -1; sort < 3; sort++) {
      RoundTheModel x = new RoundTheModel();
      seatPaid(x, 0);
      x.sheet(2, sort, 40);
      is("film", x.film(2, 0, 0, 2), 2);
      is("shorts", sortOf(x, 2), 1);
      is("so many", sizeOf(x, 2), 2);
    }
  }

  static void p17_asLittleAndAsMuchAsCanBe() {
    String[] text = {"views 0;warms -99;minds 99;", "views 99;warms 99;minds -99;"};
    for (int i = 0; i < 2; i++) {
      RoundTheModel x = ruled(text[i]);
      x.painter(0, 0, 0);
      x.film(0, 0, 0, 2);
      is("all are so", x.tells(0, 0, 0, 0), NONE);
      x.sheet(1, 1, 2);
      x.cell(1, 0, i == 0 ? -198 : 297);
      x.copy(0, 1, 1, 1, 1);
      is("as by hand", x.tells(1, 0, 0, 0), NONE);
      x.cell(1, 0, i == 0 ? -197 : 296);
      is("1 off", x.tells(1, 0, 0, 0), 0);
    }
  }

  static void p17_posesInThought() {
    RoundTheModel x = ruledOne("pose-990", 0);
    x.set(3, 0, 999);
    is("film", x.film(0, 0, 101, 20), 20);
    is("POSE", x.count(1), 999);
    is("FACE", x.told(0, 0), 0);
    is("EASEL", x.told(0, 5), 0);
    is("HAD", x.told(0, 7), 0);
    is("PLEASED", x.told(0, 8), 0);
    x.sheet(1, 1, 20);
    for (int i = 0; i < 20; i++) x.cell(1, i, 9 + i);
    is("POSE passes 999", x.tells(1, 0, 101, 0), NONE);
    is("and so it was filmed", x.tells(0, 0, 101, 0), NONE);
  }

  static void p17_otherSheetsStay() {
    RoundTheModel x = new RoundTheModel();
    seatPaid(x, 0);
    fill(x, 0, 0, 1, 1);
    fill(x, 2, 2, 1, 1, 1);
    x.film(1, 0, 0, 5);
    is("ahead", x.tells(0, 0, 0, 0), NONE);
    is("ahead", sizeOf(x, 0), 2);
    is("behind", x.tells(2, 0, 0, 0), NONE);
    is("behind", sizeOf(x, 2), 3);
  }

  // ---- 18: drawn

  /** The sum of so many true POSES, each of which turns by what the SEED tells, in whole numbers. */
  private static int drawnTruly(RoundTheModel x, int seed, int n) {
    long z = seed & 0xffffffffL;
    int sum = 0;
    for (int i = 0; i < n; i++) {
      z = (z * 1103515245L + 12345L) & 0xffffffffL;
      sum += x.pose((int) (z / 512 % 11) * 100);
    }
    return sum;
  }

  private static RoundTheModel three() {
    RoundTheModel x = new RoundTheModel();
    x.painter(0, 0, 2);
    x.painter(3, 4, 7);
    x.painter(1, 0, 8);
    return x;
  }

  static void p18_nIs0To40() {
    RoundTheModel x = new RoundTheModel();
    seatPaid(x, 0);
    for (int n : new int[] {0, 1, 39, 40}) is("drawn(0, " + n + ")", x.drawn(0, n), n);
    unfeltOf("drawn of", Bounds::studio, (y, n) -> y.drawn(7, n), NOPE, -1, 41, MIN, MAX);
  }

  static void p18_anySeed() {
    for (int seed : new int[] {0, 1, -1, 12345, MIN, MIN + 1, MAX, MAX - 1})
      for (int n : new int[] {0, 1, 2, 3, 6, 40})
        is("drawn(" + seed + ", " + n + ")", three().drawn(seed, n), drawnTruly(three(), seed, n));
  }

  static void p18_everyTurnFrom0To10() {
    boolean[] turned = new boolean[11];
    for (int seed = 0; seed < 60; seed++) {
      RoundTheModel x = ruledOne("side", 0);
      // the first POSE is at SIDE 0, the second at 11 less the turn
      int side = x.drawn(seed, 2);
      turned[(11 - side) % 11] = true;
      RoundTheModel y = ruledOne("side", 0);
      is("SEED " + seed, side, drawnTruly(y, seed, 2));
    }
    for (int turn = 0; turn < 11; turn++) is("a turn of " + turn, turned[turn] ? 1 : 0, 1);
  }

  static void p18_noStep() {
    RoundTheModel x = ruledOne("lamp", 3);
    is("one sits 3 from the LAMP", x.drawn(99, 40), 120);
  }

  static void p18_nobody() { is("drawn(3, 40)", new RoundTheModel().drawn(3, 40), 0); }

  static void p18_posePasses999InThought() {
    RoundTheModel x = ruledOne("pose-990", 0);
    x.set(3, 0, 999);
    is("drawn(0, 40)", x.drawn(0, 40), 40 * 9 + 780);
    RoundTheModel y = new RoundTheModel();
    studio(y);
    unfelt("drawn(-5, 40)", Bounds::studio, z -> z.drawn(-5, 40), y.drawn(-5, 40));
  }

  // ---- 19: chance

  static void p19_mIs1To20() {
    RoundTheModel x = three();
    for (int m : new int[] {1, 2, 19, 20}) {
      is("all of " + m + ", above", x.chance(0, m, -99999, 0), 1);
      is("all of " + m + ", below", x.chance(0, m, -99999, 1), 1);
    }
    unfeltOf("chance in", Bounds::studio, (y, m) -> y.chance(0, m, 0, 0), NO, -1, 0, 21, 40, MIN, MAX);
    unfeltOf("chance in", Bounds::studio, (y, m) -> y.chance(0, m, 0, 1), NO, 0, 21);
  }

  static void p19_kIs99999EitherWay() {
    RoundTheModel x = three();
    is("-99999", x.chance(0, 4, -99999, 0), 1);
    is("-99998", x.chance(0, 4, -99998, 0), 1);
    is("99998", x.chance(0, 4, 99998, 0), 0);
    is("99999", x.chance(0, 4, 99999, 0), 0);
    unfeltOf("chance of", Bounds::studio, (y, k) -> y.chance(0, 4, k, 0), NO, -100000, 100000, MIN, MAX);
    unfeltOf("chance of", Bounds::studio, (y, k) -> y.chance(0, 4, k, 1), NO, -100000, 100000);
  }

  static void p19_partIs0Or1() {
    unfeltOf("chance, part", Bounds::studio, (y, part) -> y.chance(0, 4, 0, part), NO, -1, 2, MIN, MAX);
  }

  static void p19_sumIsKOrMore() {
    for (int seed : new int[] {0, -77, MAX, MIN}) {
      RoundTheModel x = three();
      int sum = drawnTruly(three(), seed, 6);
      is("1 less", x.chance(seed, 1, sum - 1, 0), 1);
      is("just so", x.chance(seed, 1, sum, 0), 1);
      is("1 more", x.chance(seed, 1, sum + 1, 0), 0);
    }
  }

  static void p19_everySeed1MoreInLowestTerms() {
    for (int seed : new int[] {0, -3, MAX - 4, MAX, MIN}) {
      int[] sums = new int[20];
      for (int i = 0; i < 20; i++) sums[i] = drawnTruly(three(), seed + i, 6);
      RoundTheModel x = three();
      for (int m : new int[] {1, 2, 12, 19, 20}) {
        int k = sums[m / 2];
        int many = 0;
        for (int i = 0; i < m; i++) if (sums[i] >= k) many++;
        int d = m;
        while (m % d != 0 || many % d != 0) d--;
        is("above, of " + m + " from " + seed, x.chance(seed, m, k, 0), many / d);
        is("below, of " + m + " from " + seed, x.chance(seed, m, k, 1), m / d);
      }
    }
  }

  static void p19_noneAndAll() {
    RoundTheModel x = new RoundTheModel();
    is("nobody: SUM is 0", x.chance(5, 20, 0, 0), 1);
    is("nobody, below", x.chance(5, 20, 0, 1), 1);
    is("nobody: more than 0", x.chance(5, 20, 1, 0), 0);
    is("none, below", x.chance(5, 20, 1, 1), 1);
    seatPaid(x, 0);
    is("6 POSES are 6", x.chance(5, 20, 6, 0), 1);
    is("and no 7", x.chance(5, 20, 7, 0), 0);
  }

  static void p19_inThoughtAlone() {
    unfelt("chance", Bounds::studio, y -> y.chance(3, 20, -99999, 0), 1);
    RoundTheModel x = ruledOne("pose-990", 0);
    x.set(3, 0, 999);
    is("POSE passes 999", x.chance(0, 1, 9 + 10 + 11 + 12 + 13 + 14, 0), 1);
    is("and no more", x.chance(0, 1, 9 + 10 + 11 + 12 + 13 + 15, 0), 0);
  }

  // ---- 20: image

  static void p20_ofNobodyAndOfSix() {
    RoundTheModel x = new RoundTheModel();
    for (int i = 0; i < 6; i++) {
      is("image of " + i, x.image(), i);
      seatPaid(x, i);
    }
    is("image of 6", x.image(), 6);
    is("back", x.back(), 6);
  }

  static void p20_changesNothingButTheImage() {
    RoundTheModel x = new RoundTheModel();
    studio(x);
    unfelt("image behind image", y -> { studio(y); y.image(); }, RoundTheModel::image, 4);
    int[] was = new int[15];
    for (int i = 0; i < 15; i++) was[i] = x.told(2, i);
    x.image();
    for (int i = 0; i < 15; i++) is("told(2, " + i + ")", x.told(2, i), was[i]);
  }

  static void p20_theLastOneCounts() {
    RoundTheModel x = new RoundTheModel();
    x.set(0, 0, 3);
    x.image();
    x.set(0, 0, 4);
    x.image();
    x.set(0, 0, 5);
    x.back();
    is("FACE", x.told(0, 0), 4);
  }

  static void p20_keepsWhatStoodThen() {
    RoundTheModel x = new RoundTheModel();
    Due.read(x, SHORT);
    x.painter(0, 9, 10);
    x.set(0, 0, 10);
    x.set(1, 0, 10);
    x.set(2, 0, 10);
    x.set(3, 0, 998);
    x.pose(1010);
    x.force(1);
    // FACE and EASEL 9, SIDE 0, VIEW 10, WARMTH 5
    x.image();
    x.set(0, 0, 0);
    x.set(1, 0, 0);
    x.set(2, 0, 0);
    x.set(3, 0, 0);
    x.set(4, 0, 0);
    x.set(5, 0, 0);
    x.pose(101);
    x.force(0);
    x.back();
    int[] want = {9, 10, 10, 999, 9, 9, 0, 1, 15};
    for (int i = 0; i < 9; i++) is("told(0, " + i + ")", x.told(0, i), want[i]);
    is("THE RULE", x.count(5), 1);
    is("pose at 999", x.pose(0), NOPE);
  }

  // ---- 21: back

  static void p21_thereIsNone() {
    is("back() of a new object", new RoundTheModel().back(), STATE);
    unfelt("back()", y -> { seatPaid(y, 0, 3); y.pose(102); feed(y, "views 1;warms 2;mi"); fill(y, 1, 1, 1, 1); }, RoundTheModel::back, STATE);
    RoundTheModel x = new RoundTheModel();
    is("back()", x.back(), STATE);
    is("image()", x.image(), 0);
    is("back()", x.back(), 0);
  }

  static void p21_whoCameSinceGoes() {
    RoundTheModel x = new RoundTheModel();
    x.image();
    seatPaid(x, 0, 1, 2, 3, 4, 5);
    is("back to nobody", x.back(), 0);
    is("nobody", x.count(0), 0);
    is("all are free", x.ring(2), 2047);
    is("told", x.told(0, 4), NOPE);
    is("who comes is 0 again", x.painter(1, 2, 3), 0);
    is("HAD", x.told(0, 7), 0);
    is("PLEASED", x.told(0, 8), 0);
    x.image();
    seatPaid(x, 4, 5);
    is("back to one", x.back(), 1);
    is("the second is gone", x.taken(1, 0), NOTHING);
    is("the first is not", x.taken(0, 1), 2);
  }

  static void p21_againAndAgain() {
    RoundTheModel x = new RoundTheModel();
    seatPaid(x, 10);
    x.image();
    for (int times = 0; times < 3; times++) {
      x.pose(1);
      x.pose(1);
      is("EASEL", x.told(0, 5), 1);
      is("HAD", x.told(0, 7), 1025);
      is("back", x.back(), 1);
      is("EASEL", x.told(0, 5), 10);
      is("HAD", x.told(0, 7), 0);
      is("PLEASED", x.told(0, 8), 0);
      is("POSE", x.count(1), 0);
    }
    is("back with nothing between", x.back(), 1);
  }

  static void p21_textsTapeAndSheetsStay() {
    RoundTheModel x = new RoundTheModel();
    seatPaid(x, 0);
    x.image();
    for (int i = 1; i < 6; i++) Due.read(x, "views " + i + ";warms 0;minds 0;");
    x.force(5);
    feed(x, "abc");
    fill(x, 3, 0, 1, 1);
    x.back();
    is("TEXTS", x.count(3), 6);
    is("THE RULE", x.count(5), 0);
    is("THE TAPE", x.count(4), 3);
    is("SHEETS", x.tells(3, 0, 0, 0), NONE);
    is("so many", sizeOf(x, 3), 2);
    is("force(5)", x.force(5), 0);
  }

  // ---- 22: count

  static void p22_whatIs0To5() {
    unfeltOf("count", Bounds::studio, (y, what) -> y.count(what), BAD, -1, 6, 7, MIN, MAX);
    for (int what = 0; what < 6; what++) {
      int which = what;
      RoundTheModel x = new RoundTheModel();
      studio(x);
      unfelt("count(" + what + ")", Bounds::studio, y -> y.count(which), new int[] {4, 2, 7, 2, 18, 1}[which]);
    }
  }

  static void p22_ofNoneAndOfAll() {
    RoundTheModel x = new RoundTheModel();
    int[] none = {0, 0, 11, 1, 0, 0};
    for (int what = 0; what < 6; what++) is("count(" + what + ")", x.count(what), none[what]);
    for (int i = 1; i < 6; i++) Due.read(x, SHORT);
    x.force(5);
    x.set(3, 0, 999);
    for (int i = 0; i < 160; i++) x.feed(0);
    seatPaid(x, 5, 6, 7, 8, 9, 10);
    int[] all = {6, 999, 5, 6, 160, 5};
    for (int what = 0; what < 6; what++) is("count(" + what + ")", x.count(what), all[what]);
  }
}
