/** Promises 8 to 11: pose, run, ring, mean. */
public final class BoundsPoseTest extends Bounds {
  public static void main(String[] args) throws Exception { runAll(BoundsPoseTest.class, 8, 11); }

  private static void atLastPose(RoundTheModel x) {
    studio(x);
    x.set(3, 0, 999);
  }

  // ---- 8: pose

  static void p08_turnAndStepAre0To10() {
    int[][] fine = {{0, 0, 0}, {1, 0, 1}, {10, 0, 10}, {100, 1, 0}, {110, 1, 10}, {1000, 10, 0}, {1010, 10, 10}};
    for (int[] f : fine) {
      RoundTheModel x = new RoundTheModel();
      seatPaid(x, 0);
      is("pose(" + f[0] + ")", x.pose(f[0]), 1);
      is("FACE", x.told(0, 0), f[1]);
      is("EASEL", x.told(0, 5), f[2]);
      is("POSE", x.told(0, 3), 1);
    }
    unfeltOf("pose", Bounds::studio, (y, t) -> y.pose(t), NOPE, -1, 11, 12, 99, 111, 199, 1011, 1099, 1100, 1110);
    unfeltOf("pose", Bounds::studio, (y, t) -> y.pose(t), NOPE, -10, -100, -110, -1010, 10000, 65536, MIN, MAX);
  }

  /** Every number from -1200 to 2400, in thought. */
  static void p08_noOtherTurnStep() {
    RoundTheModel x = new RoundTheModel();
    int asked = 0;
    for (int t = -1200; t <= 2400; t++) {
      if (asked++ % 500 == 0) x = new RoundTheModel();
      boolean fine = false;
      for (int turn = 0; turn <= 10; turn++) fine |= t >= 100 * turn && t <= 100 * turn + 10;
      is("run(0, " + t + ", 0)", x.run(0, t, 0), fine ? 0 : NOPE);
    }
  }

  static void p08_poseIs999AtMost() {
    RoundTheModel x = new RoundTheModel();
    seatPaid(x, 0);
    x.set(3, 0, 998);
    is("pose at 998", x.pose(101), 1);
    is("POSE", x.count(1), 999);
    is("pose at 999", x.pose(101), NOPE);
    unfeltOf("pose at 999", BoundsPoseTest::atLastPose, (y, t) -> y.pose(t), NOPE, 0, 101, 1010, 11, -1);
    x.set(3, 0, 0);
    is("pose at 0", x.pose(101), 1);
    is("POSE", x.count(1), 1);
  }

  static void p08_theModelTurnsRound() {
    int[][] turns = {{10, 1, 0}, {10, 10, 9}, {0, 10, 10}, {1, 10, 0}, {5, 5, 10}, {5, 6, 0}, {10, 0, 10}};
    for (int[] t : turns) {
      RoundTheModel x = new RoundTheModel();
      x.set(0, 0, t[0]);
      is("pose of nobody", x.pose(100 * t[1]), 0);
      is("FACE " + t[0] + ", turn " + t[1], x.told(0, 0), t[2]);
    }
  }

  static void p08_allSitFurtherOnRound() {
    int[][] steps = {{10, 1, 0}, {10, 10, 9}, {0, 10, 10}, {1, 10, 0}, {5, 5, 10}, {5, 6, 0}, {10, 0, 10}};
    for (int[] s : steps) {
      RoundTheModel x = new RoundTheModel();
      seatPaid(x, s[0]);
      seatPaid(x, (s[0] + 1) % 11);
      is("pose", x.pose(s[1]), 2);
      is("EASEL " + s[0] + ", step " + s[1], x.told(0, 5), s[2]);
      is("EASEL of who is behind", x.told(1, 5), (s[2] + 1) % 11);
      is("FACE, LAMP stay", x.told(0, 0) + x.told(0, 1), 0);
      is("STOVE stays", x.told(0, 2), 5);
    }
  }

  static void p08_sixSitFurtherOn() {
    RoundTheModel x = new RoundTheModel();
    seatPaid(x, 5, 6, 7, 8, 9, 10);
    is("WHOLE", x.pose(6), 6);
    for (int i = 0; i < 6; i++) is("EASEL of " + i, x.told(i, 5), i);
    is("free", x.ring(2), 2047 - 63);
  }

  static void p08_pleasedIsToldAheadOfAll() {
    RoundTheModel x = ruled("views 30-side;warms pose;minds near;");
    x.painter(0, 0, 0);
    x.painter(0, 0, 1);
    // SIDES 0 and 1, POSE 0, one near each
    is("WHOLE", x.pose(305), 30 + 29 - 2);
    is("PLEASED", x.told(0, 8), 29);
    is("PLEASED", x.told(1, 8), 28);
    // SIDES 2 and 3, POSE 1
    is("WHOLE", x.pose(0), 28 + 27 + 2 - 2);
    is("PLEASED", x.told(0, 8), 29 + 28);
    is("PLEASED", x.told(1, 8), 28 + 27);
  }

  static void p08_sidesThatOneHas() {
    RoundTheModel x = new RoundTheModel();
    seatPaid(x, 0, 10);
    x.pose(0);
    is("SIDE 0", x.told(0, 7), 1);
    is("SIDE 10", x.told(1, 7), 1024);
    x.pose(100);
    is("SIDE 0 again", x.told(0, 7), 1);
    x.pose(0);
    is("SIDES 0 and 10", x.told(0, 7), 1025);
    is("SIDES 9 and 10", x.told(1, 7), 1536);
    for (int i = 0; i < 10; i++) x.pose(1);
    is("every SIDE but 9", x.told(0, 7), 2047 - 512);
    x.pose(0);
    is("every SIDE", x.told(0, 7), 2047);
  }

  static void p08_nobodyPoses() {
    RoundTheModel x = new RoundTheModel();
    is("WHOLE of nobody", x.pose(1010), 0);
    is("POSE", x.count(1), 1);
    is("FACE", x.told(0, 0), 10);
  }

  static void p08_pleasedIs99999AtMost() {
    RoundTheModel x = ruled("views 99;warms 99;minds -99;");
    Due.read(x, "views 0;warms -1;minds 0;");
    x.painter(0, 0, 0);
    x.painter(5, 0, 5);
    for (int i = 0; i < 336; i++) x.pose(0);
    is("336 times 297", x.told(0, 8), 99792);
    is("WHOLE", x.pose(0), 298);
    is("the bound", x.told(0, 8), 99999);
    is("WHOLE has none", x.pose(0), 298);
    is("the bound", x.told(0, 8), 99999);
    is("who is PAID", x.told(1, 8), 338);
    x.force(2);
    is("WHOLE", x.pose(0), 0);
    is("1 less", x.told(0, 8), 99998);
    x.force(1);
    x.pose(0);
    is("the bound", x.told(0, 8), 99999);
    is("SUM of what comes has none", x.run(2, 0, 10), 594);
  }

  static void p08_pleasedBelow0() {
    RoundTheModel x = ruled("views 0;warms -99;minds 99;");
    x.painter(0, 0, 0);
    is("WHOLE", x.pose(0), -198);
    is("PLEASED", x.told(0, 8), -198);
    for (int i = 0; i < 470; i++) x.pose(0);
    is("PLEASED", x.told(0, 8), -198 * 471);
  }

  // ---- 9: run

  static void p09_nIs0To40() {
    RoundTheModel x = new RoundTheModel();
    seatPaid(x, 0);
    int[] fine = {0, 1, 39, 40};
    for (int n : fine) is("run(" + n + ", 0, 0)", x.run(n, 0, 0), n);
    unfeltOf("run", Bounds::studio, (y, n) -> y.run(n, 0, 0), NOPE, -1, 41, 42, MIN, MAX);
    unfeltOf("run", Bounds::studio, (y, n) -> y.run(n, 0, 3), NOPE, -1, 41);
  }

  static void p09_turnStep() {
    unfeltOf("run", Bounds::studio, (y, t) -> y.run(1, t, 0), NOPE, -1, 11, 99, 111, 1011, 1100, MIN, MAX);
    unfeltOf("run of none", Bounds::studio, (y, t) -> y.run(0, t, 3), NOPE, -1, 11, 1100);
    is("the last", new RoundTheModel().run(1, 1010, 3), 10);
    is("the first", new RoundTheModel().run(1, 0, 3), 0);
  }

  static void p09_whatIs0To3() {
    unfeltOf("run", Bounds::crowded, (y, what) -> y.run(1, 0, what), NOPE, -1, 4, 5, 9, MIN, MAX);
    is("3", new RoundTheModel().run(0, 0, 3), 0);
  }

  static void p09_whatIs10AndWho() {
    for (int many = 0; many <= 6; many++) {
      RoundTheModel x = new RoundTheModel();
      for (int i = 0; i < many; i++) seatPaid(x, i);
      for (int who = 0; who < 10; who++) is("run(2, 0, 10 + " + who + ") of " + many, x.run(2, 0, 10 + who), who < many ? 2 : NOPE);
    }
    unfeltOf("run", Bounds::studio, (y, what) -> y.run(1, 0, what), NOPE, 9, 14, 15, 16, 19);
    unfeltOf("run", Bounds::crowded, (y, what) -> y.run(1, 0, what), NOPE, 9, 16, 17, 19);
  }

  static void p09_whatIs20AndWho() {
    for (int many = 0; many <= 6; many++) {
      RoundTheModel x = new RoundTheModel();
      for (int i = 0; i < many; i++) seatPaid(x, i);
      for (int who = 0; who < 12; who++) is("run(1, 0, 20 + " + who + ") of " + many, x.run(1, 0, 20 + who), who < many ? 1 << who : NOPE);
    }
    unfeltOf("run", Bounds::studio, (y, what) -> y.run(1, 0, what), NOPE, 19, 24, 25, 26, 29, 30);
    unfeltOf("run", Bounds::crowded, (y, what) -> y.run(1, 0, what), NOPE, 19, 26, 29, 30, 35);
  }

  static void p09_nobody() {
    RoundTheModel x = new RoundTheModel();
    for (int n : new int[] {0, 1, 40}) {
      is("SUM", x.run(n, 101, 0), 0);
      is("LEAST", x.run(n, 101, 1), 0);
      is("who", x.run(n, 101, 2), NONE);
      is("FACE", x.run(n, 101, 3), n % 11);
    }
  }

  static void p09_ofLikeOnesTheFirst() {
    RoundTheModel x = new RoundTheModel();
    seatPaid(x, 3, 7);
    is("alike", x.run(5, 101, 2), 0);
    is("behind none", x.run(0, 0, 2), 0);
    x.painter(0, 0, 0);
    is("the third is more so", x.run(1, 0, 2), 0);
    RoundTheModel y = new RoundTheModel();
    y.painter(0, 0, 0);
    seatPaid(y, 4, 8);
    is("the second and the third alike", y.run(1, 0, 2), 1);
    is("LEAST", y.run(1, 0, 1), 1);
    is("behind none all are alike", y.run(0, 0, 2), 0);
  }

  static void p09_leastBelow0() {
    RoundTheModel x = ruled("views 0;warms -side;minds 0;");
    x.painter(0, 0, 1);
    x.painter(0, 0, 3);
    is("LEAST", x.run(2, 0, 1), -6);
    is("who", x.run(2, 0, 2), 1);
    is("SUM", x.run(2, 0, 0), -8);
    is("the first", x.run(2, 0, 10), -2);
    is("as far as it goes", ruledOne("views 0;warms -99;minds 99;").run(40, 0, 0), -198 * 40);
    is("as high as it goes", ruledOne("views 99;warms 99;minds -99;").run(40, 0, 0), 297 * 40);
  }

  private static RoundTheModel ruledOne(String text) {
    RoundTheModel x = ruled(text);
    x.painter(0, 0, 0);
    return x;
  }

  static void p09_posePasses999InThought() {
    RoundTheModel x = ruledOne("views pose-990;warms 0;minds 0;");
    x.set(3, 0, 999);
    is("1", x.run(1, 0, 0), 9);
    is("2", x.run(2, 0, 0), 9 + 10);
    is("40", x.run(40, 0, 0), 40 * 9 + 780);
    // the studio's model faces 1
    unfelt("run at 999", BoundsPoseTest::atLastPose, y -> y.run(40, 1010, 3), (1 + 40 * 10) % 11);
  }

  static void p09_faceAtLastGoesRound() {
    RoundTheModel x = new RoundTheModel();
    x.set(0, 0, 10);
    is("1 by 1", x.run(1, 100, 3), 0);
    is("1 by 10", x.run(1, 1000, 3), 9);
    is("11 by 7", x.run(11, 700, 3), 10);
    is("40 by 10", x.run(40, 1000, 3), 3);
    is("40 by 0", x.run(40, 10, 3), 10);
    is("none", x.run(0, 1010, 3), 10);
  }

  static void p09_sidesWithWhatOneHadAhead() {
    RoundTheModel x = new RoundTheModel();
    seatPaid(x, 10);
    is("behind none", x.run(0, 1, 20), 0);
    is("behind 1", x.run(1, 1, 20), 1024);
    is("behind 2, round", x.run(2, 1, 20), 1025);
    is("behind 10", x.run(10, 1, 20), 2047 - 512);
    is("behind 11", x.run(11, 1, 20), 2047);
    is("behind 40, both alike", x.run(40, 303, 20), 1024);
    x.pose(2);
    // it sits at 1
    is("behind none", x.run(0, 1, 20), 1024);
    is("behind 1", x.run(1, 1, 20), 1026);
    is("behind 40", x.run(40, 1000, 20), 2047);
  }

  static void p09_inThoughtAlone() {
    for (int what : new int[] {0, 1, 2, 3, 10, 13, 20, 23}) {
      RoundTheModel x = new RoundTheModel();
      studio(x);
      unfelt("run(40, 907, " + what + ")", Bounds::studio, y -> y.run(40, 907, what), x.run(40, 907, what));
    }
  }

  // ---- 10: ring

  static void p10_whatIs0To3() {
    unfeltOf("ring", Bounds::studio, (y, what) -> y.ring(what), NOPE, -1, 4, 5, MIN, MAX);
    is("ring(4) of nobody", new RoundTheModel().ring(4), NOPE);
    is("ring(-1) of nobody", new RoundTheModel().ring(-1), NOPE);
  }

  static void p10_nobody() {
    RoundTheModel x = new RoundTheModel();
    is("WHOLE", x.ring(0), 0);
    is("most", x.ring(1), NONE);
    is("free", x.ring(2), 2047);
    is("WORST", x.ring(3), NONE);
    // what was best of other things is forgotten
    x.set(0, 0, 7);
    is("TURN", x.best(3, 0), 0);
    is("most behind TURN", x.ring(1), NONE);
    is("LIGHT", x.change(2), 0);
    is("WORST behind LIGHT", x.ring(3), NONE);
    x.image();
    x.painter(0, 0, 3);
    is("most of one", x.ring(1), 0);
    is("WORST of one", x.ring(3), 6);
    x.back();
    is("most of nobody again", x.ring(1), NONE);
    is("WORST of nobody again", x.ring(3), NONE);
  }

  static void p10_wholeOfOneAndOfSix() {
    RoundTheModel x = ruled("views 99;warms 99;minds -99;");
    for (int i = 0; i < 6; i++) {
      is("WHOLE of " + i, x.ring(0), 297 * i);
      x.painter(0, 0, i);
    }
    is("WHOLE of 6", x.ring(0), 297 * 6);
    x = ruled("views 0;warms -99;minds 99;");
    x.painter(0, 0, 10);
    is("WHOLE below 0", x.ring(0), -198);
  }

  static void p10_mostOfLikeOnesTheFirst() {
    RoundTheModel x = new RoundTheModel();
    seatPaid(x, 4);
    is("one", x.ring(1), 0);
    seatPaid(x, 6, 8);
    is("three alike", x.ring(1), 0);
    x.painter(0, 0, 0);
    is("the last", x.ring(1), 3);
    x.set(0, 0, 1);
    x.painter(0, 0, 2);
    // 0 is at SIDE 10, 2 at SIDE 1
    is("the last", x.ring(1), 4);
    RoundTheModel y = ruled("views 0;warms -9;minds 0;");
    y.painter(0, 0, 3);
    y.painter(0, 0, 6);
    is("alike below 0", y.ring(1), 0);
    y.painter(5, 0, 9);
    is("one above 0", y.ring(1), 2);
  }

  static void p10_freeEasels() {
    RoundTheModel x = new RoundTheModel();
    seatPaid(x, 0);
    is("all but 0", x.ring(2), 2046);
    seatPaid(x, 10);
    is("all but 0 and 10", x.ring(2), 1022);
    seatPaid(x, 5, 6, 7, 8);
    is("of six", x.ring(2), 1022 - 32 - 64 - 128 - 256);
    x.pose(1);
    is("all sit one further on", x.ring(2), 2047 - 1 - 2 - 64 - 128 - 256 - 512);
    x.set(5, 0, 3);
    is("one sits at 3", x.ring(2), 2047 - 1 - 8 - 64 - 128 - 256 - 512);
  }

  static void p10_worstIsFree() {
    RoundTheModel x = new RoundTheModel();
    x.painter(0, 0, 10);
    // 10 is one's own: there 0 + 0; of the others 9: 1 + 1
    is("not one's own", x.ring(3), 9);
    seatPaid(x, 9);
    // 8: 2 + 2 less one near; so 8 is 3, 7: 3 + 3
    is("nor another's", x.ring(3), 8);
    x.set(5, 0, 5);
    // 10: 0 + 0 less one near
    is("10", x.ring(3), 10);
    x.set(0, 0, 1);
    // 10: SIDE 9: 1 + 0, less one near; 0: SIDE 10: 0 + 0
    is("0, of like ones", x.ring(3), 0);
    x.set(2, 0, 4);
    // 10: SIDE 9: 1, STOVE AWAY 5: 0, near 1; 0: 0, STOVE AWAY 4: 1
    is("10, one near", x.ring(3), 10);
    x.set(5, 1, 6);
    x.set(2, 0, 5);
    // 10: 1 + 0; 0: 0 + 0
    is("0, nobody near", x.ring(3), 0);
  }

  static void p10_worstOfLikeOnesTheFirst() {
    RoundTheModel x = new RoundTheModel();
    seatPaid(x, 5);
    is("all alike", x.ring(3), 0);
    seatPaid(x, 0);
    is("0 is taken", x.ring(3), 1);
    seatPaid(x, 1, 2, 3, 4);
    is("0 to 5 are taken", x.ring(3), 6);
    RoundTheModel y = new RoundTheModel();
    seatPaid(y, 0, 1, 2, 3, 4);
    is("one's own is not free", y.ring(3), 5);
  }

  static void p10_worstIsOfPainter0() {
    RoundTheModel x = new RoundTheModel();
    seatPaid(x, 5);
    x.painter(0, 0, 3);
    is("who is PAID does not care", x.ring(3), 0);
    RoundTheModel y = new RoundTheModel();
    y.painter(0, 0, 3);
    seatPaid(y, 5);
    is("a PAINTER does", y.ring(3), 10);
    is("nothing moved", y.told(0, 5), 3);
  }

  // ---- 11: mean

  static void p11_nIs0To40() {
    RoundTheModel x = new RoundTheModel();
    seatPaid(x, 0);
    for (int n : new int[] {0, 1, 39, 40}) is("mean(" + n + ", 0, 0)", x.mean(n, 0, 0), n);
    unfeltOf("mean", Bounds::studio, (y, n) -> y.mean(n, 0, 0), NO, -1, 41, MIN, MAX);
    unfeltOf("mean", Bounds::studio, (y, n) -> y.mean(n, 0, 1), NO, -1, 41);
  }

  static void p11_posePasses999InThought() {
    RoundTheModel x = ruledOne("views pose-990;warms 0;minds 0;");
    x.set(3, 0, 999);
    is("mean(40, 0, 0)", x.mean(40, 0, 0), 40 * 9 + 780);
    is("POSE", x.count(1), 999);
    unfelt("mean at 999", BoundsPoseTest::atLastPose, y -> y.mean(0, 1010, 1), 1);
  }

  static void p11_turnStep() {
    unfeltOf("mean", Bounds::studio, (y, t) -> y.mean(1, t, 0), NO, -1, 11, 99, 111, 1011, 1100, MIN, MAX);
    RoundTheModel x = new RoundTheModel();
    x.painter(0, 0, 0);
    // SIDES 0 and 10, STOVE AWAY 5 and 5; then SIDES 0 and 1, at 10 the STOVE is AWAY 5
    is("mean(2, 10, 0)", x.mean(2, 10, 0), 10);
    is("mean(2, 1000, 0)", x.mean(2, 1000, 0), 19);
    is("mean(2, 1010, 0)", x.mean(2, 1010, 0), 20);
  }

  static void p11_partIs0Or1() {
    unfeltOf("mean", Bounds::studio, (y, part) -> y.mean(1, 0, part), NO, -1, 2, 3, MIN, MAX);
    RoundTheModel x = new RoundTheModel();
    seatPaid(x, 0);
    is("above", x.mean(7, 0, 0), 7);
    is("below", x.mean(7, 0, 1), 1);
  }

  static void p11_nobody() {
    for (int part = 0; part < 2; part++) {
      int which = part;
      unfelt("mean of nobody", y -> { }, y -> y.mean(1, 0, which), NO);
      is("mean of nobody by none", new RoundTheModel().mean(0, 0, part), NO);
    }
  }

  /** One who is PLEASED by so much, and who are PLEASED by 1 each. */
  private static RoundTheModel sumOf(String warms, int others) {
    RoundTheModel x = ruled("views 0;warms " + warms + ";minds 0;");
    x.painter(0, 0, 0);
    for (int i = 0; i < others; i++) seatPaid(x, i + 3);
    return x;
  }

  static void p11_inLowestTerms() {
    int[][] of = {{0, 1, 1, 2}, {1, 1, 1, 1}, {2, 1, 3, 2}, {3, 5, 4, 3}, {4, 5, 3, 2}, {1, 5, 1, 1}, {7, 5, 2, 1}, {5, 5, 5, 3}, {2, 5, 7, 6}};
    for (int[] f : of) {
      RoundTheModel x = sumOf("" + f[0], f[1]);
      is(f[0] + " and " + f[1] + ", above", x.mean(1, 0, 0), f[2]);
      is(f[0] + " and " + f[1] + ", below", x.mean(1, 0, 1), f[3]);
    }
  }

  static void p11_noneAtAll() {
    RoundTheModel x = sumOf("-5", 5);
    is("0 by 6, above", x.mean(1, 0, 0), 0);
    is("0 by 6, below", x.mean(1, 0, 1), 1);
    is("of no POSES, above", x.mean(0, 0, 0), 0);
    is("of no POSES, below", x.mean(0, 0, 1), 1);
  }

  static void p11_theLineIsAbove0() {
    int[][] of = {{6, 5, -1, 6}, {7, 5, -1, 3}, {9, 5, -2, 3}, {11, 5, -1, 1}, {3, 1, -1, 1}, {2, 1, -1, 2}, {99, 0, -99, 1}};
    for (int[] f : of) {
      RoundTheModel x = sumOf("-" + f[0], f[1]);
      is("-" + f[0] + " and " + f[1] + ", above", x.mean(1, 0, 0), f[2]);
      is("-" + f[0] + " and " + f[1] + ", below", x.mean(1, 0, 1), f[3]);
    }
  }
}
