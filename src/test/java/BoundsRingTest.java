/** Promises 1 to 4: a new object, set, painter, told, and the terms that these tell. */
public final class BoundsRingTest extends Bounds {
  public static void main(String[] args) throws Exception { runAll(BoundsRingTest.class, 1, 4); }

  // ---- 1: a new object

  static void p01_constants() {
    is("NONE", RoundTheModel.NONE, -1);
    is("BAD", RoundTheModel.BAD, -2);
    is("STATE", RoundTheModel.STATE, -3);
    is("FULL", RoundTheModel.FULL, -4);
    is("NO", RoundTheModel.NO, -4611686018427387904L);
  }

  static void p01_nobody() {
    RoundTheModel x = new RoundTheModel();
    is("PAINTERS", x.count(0), 0);
    for (int what = 4; what < 15; what++) is("told(0, " + what + ")", x.told(0, what), NOPE);
    is("who is PLEASED most", x.ring(1), NONE);
    is("WORST", x.ring(3), NONE);
    is("who is least so", x.run(1, 0, 2), NONE);
    is("CHANGE", x.change(0), NONE);
    is("taken(0, 0)", x.taken(0, 0), NOTHING);
  }

  static void p01_everyEaselIsFree() {
    RoundTheModel x = new RoundTheModel();
    is("free", x.ring(2), 2047);
    is("so many", x.count(2), 11);
  }

  static void p01_faceLampStovePose() {
    RoundTheModel x = new RoundTheModel();
    is("FACE", x.told(0, 0), 0);
    is("LAMP", x.told(0, 1), 0);
    is("STOVE", x.told(0, 2), 5);
    is("POSE", x.told(0, 3), 0);
    is("POSE", x.count(1), 0);
  }

  static void p01_textZeroIsTheRule() {
    RoundTheModel x = new RoundTheModel();
    is("TEXTS", x.count(3), 1);
    is("THE RULE", x.count(5), 0);
    is("force(0)", x.force(0), 0);
    x.painter(0, 0, 3);
    x.painter(0, 0, 4);
    is("views 10 - side", x.told(0, 10), 7);
    is("warms 5 - stove", x.told(0, 11), 3);
    is("minds near", x.told(0, 12), 1);
  }

  static void p01_theTapeIsEmpty() {
    is("bytes", new RoundTheModel().count(4), 0);
    is("text()", new RoundTheModel().text(), -100);
    is("the first byte", new RoundTheModel().feed(0), 1);
  }

  static void p01_sheetsAreMissing() {
    RoundTheModel x = new RoundTheModel();
    seatPaid(x, 0);
    for (int sheet = 0; sheet < 4; sheet++) {
      is("cell(" + sheet + ", ..)", x.cell(sheet, 0, 1), NOTHING);
      is("tells(" + sheet + ", ..)", x.tells(sheet, 0, 0, 0), NOTHING);
      is("painters(" + sheet + ", ..)", x.painters(sheet, 0, 0, 0), NOTHING);
      is("copy(" + sheet + ", ..)", x.copy(sheet, 0, sheet, 0, 0), NOTHING);
    }
  }

  static void p01_thereIsNoImage() { is("back()", new RoundTheModel().back(), STATE); }

  static void p01_holdsFor512Calls() {
    RoundTheModel x = new RoundTheModel();
    for (int i = 0; i < 400; i++) is("text()", x.text(), -100);
    for (int i = 0; i < 110; i++) is("best(10, 2)", x.best(10, 2), 0);
    is("call 511", x.painter(0, 0, 1), 0);
    is("call 512", x.told(0, 13), 10);
  }

  // ---- 2: set

  private static final int[] TOPS = {10, 10, 10, 999};

  private static void places(int what) {
    int top = TOPS[what];
    RoundTheModel x = new RoundTheModel();
    int was = x.told(0, what);
    for (int v : new int[] {0, 1, top - 1, top, 0}) {
      is("set(" + what + ", 0, " + v + ")", x.set(what, 0, v), was);
      is("it is so", x.told(0, what), v);
      was = v;
    }
    unfeltOf("set " + what, Bounds::studio, (y, v) -> y.set(what, 0, v), BAD, -1, top + 1, MIN, MAX);
    unfeltOf("set " + what + " in a crowd", Bounds::crowded, (y, v) -> y.set(what, 5, v), BAD, -1, top + 1);
  }

  static void p02_faceIs0To10() { places(0); }

  static void p02_lampIs0To10() { places(1); }

  static void p02_stoveIs0To10() { places(2); }

  static void p02_poseIs0To999() { places(3); }

  static void p02_ofDoesNotMatterTo0To3() {
    for (int of : new int[] {MIN, -1, 0, 6, MAX}) {
      RoundTheModel x = new RoundTheModel();
      int[] was = {0, 0, 5, 0};
      for (int what = 0; what < 4; what++) {
        is("set(" + what + ", " + of + ", 7)", x.set(what, of, 7), was[what]);
        is("it is so", x.told(of, what), 7);
      }
    }
  }

  static void p02_setsThatAndNothingElse() {
    for (int what = 0; what < 6; what++) {
      RoundTheModel x = new RoundTheModel();
      x.painter(0, 2, 3);
      x.painter(0, 4, 6);
      x.set(what, 1, 9);
      int[] want = {0, 0, 5, 0, 4, 6};
      want[what] = 9;
      for (int i = 0; i < 6; i++) is("told(1, " + i + ") behind set " + what, x.told(1, i), want[i]);
      is("NUMBER of the other", x.told(0, 4), 2);
      is("EASEL of the other", x.told(0, 5), 3);
    }
  }

  static void p02_numberIs0To9() {
    RoundTheModel x = new RoundTheModel();
    x.painter(0, 5, 3);
    is("to 9", x.set(4, 0, 9), 5);
    is("to 0", x.set(4, 0, 0), 9);
    is("to 1", x.set(4, 0, 1), 0);
    is("NUMBER", x.told(0, 4), 1);
    unfeltOf("set NUMBER", Bounds::studio, (y, v) -> y.set(4, 0, v), BAD, -1, 10, MIN, MAX);
  }

  static void p02_easelIs0To10() {
    RoundTheModel x = new RoundTheModel();
    x.painter(0, 5, 3);
    is("to 10", x.set(5, 0, 10), 3);
    is("to 0", x.set(5, 0, 0), 10);
    is("EASEL", x.told(0, 5), 0);
    is("3 and 10 are free", x.ring(2), 2046);
    unfeltOf("set EASEL", Bounds::studio, (y, v) -> y.set(5, 0, v), BAD, -1, 11, MIN, MAX);
  }

  static void p02_easelIsFreeOrOnesOwn() {
    RoundTheModel x = new RoundTheModel();
    seatPaid(x, 4, 5);
    is("one's own", x.set(5, 0, 4), 4);
    is("the free one next to it", x.set(5, 0, 3), 4);
    is("the one that was left", x.set(5, 1, 4), 5);
    for (int who = 0; who < 2; who++) {
      int whose = who;
      unfelt("the EASEL of another", y -> seatPaid(y, 4, 5), y -> y.set(5, whose, 5 - whose), BAD);
    }
    unfelt("the EASEL of the last of six", Bounds::crowded, y -> y.set(5, 0, 6), BAD);
  }

  static void p02_painterIsOneOfThem() {
    for (int what = 4; what < 6; what++) {
      int which = what;
      RoundTheModel x = new RoundTheModel();
      x.painter(0, 1, 1);
      x.painter(0, 2, 2);
      is("the first", x.set(what, 0, 7), 1);
      is("the last", x.set(what, 1, 8), 2);
      unfeltOf("set " + what + " of", Bounds::studio, (y, of) -> y.set(which, of, 2), BAD, -1, 4, 5, 6, MIN, MAX);
      unfeltOf("set " + what + " of", Bounds::crowded, (y, of) -> y.set(which, of, 2), BAD, -1, 6);
      is("nobody", new RoundTheModel().set(what, 0, 2), BAD);
    }
  }

  static void p02_whatIs0To5() {
    unfeltOf("set", Bounds::studio, (y, what) -> y.set(what, 0, 1), BAD, -1, 6, 7, MIN, MAX);
  }

  // ---- 3: painter

  static void p03_kindIs0To5() {
    RoundTheModel x = new RoundTheModel();
    is("kind 0", x.painter(0, 0, 0), 0);
    is("kind 5", x.painter(5, 0, 1), 1);
    is("KIND", x.told(0, 6), 0);
    is("KIND", x.told(1, 6), 5);
    unfeltOf("painter of kind", Bounds::studio, (y, kind) -> y.painter(kind, 0, 10), BAD, -1, 6, MIN, MAX);
  }

  static void p03_numberIs0To9() {
    RoundTheModel x = new RoundTheModel();
    is("number 0", x.painter(0, 0, 0), 0);
    is("number 9", x.painter(0, 9, 1), 1);
    is("NUMBER", x.told(0, 4), 0);
    is("NUMBER", x.told(1, 4), 9);
    unfeltOf("painter of number", Bounds::studio, (y, number) -> y.painter(0, number, 10), BAD, -1, 10, MIN, MAX);
  }

  static void p03_easelIs0To10() {
    RoundTheModel x = new RoundTheModel();
    is("easel 0", x.painter(0, 0, 0), 0);
    is("easel 10", x.painter(0, 0, 10), 1);
    is("EASEL", x.told(0, 5), 0);
    is("EASEL", x.told(1, 5), 10);
    unfeltOf("painter at easel", Bounds::studio, (y, easel) -> y.painter(0, 0, easel), BAD, -1, 11, MIN, MAX);
  }

  static void p03_theEaselIsFree() {
    for (int easel : new int[] {0, 10}) {
      unfelt("painter where one sits", y -> seatPaid(y, 0, 10), y -> y.painter(0, 0, easel), BAD);
      unfelt("painter where the sixth sits", y -> seatPaid(y, 1, 2, 3, 4, easel), y -> y.painter(0, 0, easel), BAD);
    }
    RoundTheModel x = new RoundTheModel();
    seatPaid(x, 4);
    x.set(5, 0, 5);
    is("where one sat", x.painter(0, 0, 4), 1);
    x.pose(1);
    // they sit at 6 and 5 now
    is("where one sits", x.painter(0, 0, 6), BAD);
    is("where one sat", x.painter(0, 0, 4), 2);
  }

  static void p03_sixAtMost() {
    RoundTheModel x = new RoundTheModel();
    for (int i = 0; i < 6; i++) is("painter " + i, x.painter(i, 9 - i, i + 5), i);
    is("six", x.count(0), 6);
    is("five easels are free", x.ring(2), 31);
    unfeltOf("the seventh, at", Bounds::crowded, (y, easel) -> y.painter(0, 0, easel), FULL, 2, 5, 8);
  }

  static void p03_badIsAheadOfFull() {
    unfelt("kind", Bounds::crowded, y -> y.painter(6, 0, 2), BAD);
    unfelt("number", Bounds::crowded, y -> y.painter(0, 10, 2), BAD);
    unfelt("easel", Bounds::crowded, y -> y.painter(0, 0, 11), BAD);
    unfelt("an easel that isn't free", Bounds::crowded, y -> y.painter(0, 0, 10), BAD);
  }

  static void p03_hasHadNothingAndIsNotPleased() {
    RoundTheModel x = new RoundTheModel();
    seatPaid(x, 0);
    x.pose(0);
    seatPaid(x, 1);
    is("HAD of the first", x.told(0, 7), 1);
    is("PLEASED of the first", x.told(0, 8), 1);
    is("HAD of the second", x.told(1, 7), 0);
    is("PLEASED of the second", x.told(1, 8), 0);
  }

  static void p03_roomThatBackLeft() {
    RoundTheModel x = new RoundTheModel();
    seatPaid(x, 0, 1, 2, 3, 4);
    x.image();
    seatPaid(x, 5);
    x.pose(0);
    is("full", x.painter(0, 0, 6), FULL);
    x.back();
    is("room for one", x.painter(2, 7, 5), 5);
    is("HAD", x.told(5, 7), 0);
    is("PLEASED", x.told(5, 8), 0);
    is("KIND", x.told(5, 6), 2);
    is("full again", x.painter(0, 0, 6), FULL);
  }

  // ---- 4: told

  static void p04_whatIs0To14() {
    unfeltOf("told(0, ..)", Bounds::studio, (y, what) -> y.told(0, what), NOPE, -1, 15, 16, MIN, MAX);
    RoundTheModel x = new RoundTheModel();
    seatPaid(x, 3, 4);
    is("what 0", x.told(0, 0), 0);
    is("what 14", x.told(0, 14), 1);
  }

  static void p04_ofIsOneOfThem() {
    for (int what = 4; what < 15; what++) {
      int which = what;
      for (int of : new int[] {-1, 4, 5, 6, MIN, MAX}) is("told(" + of + ", " + what + ")", studied().told(of, which), NOPE);
    }
    unfeltOf("told(.., 13)", Bounds::studio, (y, of) -> y.told(of, 13), NOPE, -1, 4);
    unfeltOf("told(.., 4) of six", Bounds::crowded, (y, of) -> y.told(of, 4), NOPE, -1, 6);
    RoundTheModel x = new RoundTheModel();
    crowded(x);
    is("the first", x.told(0, 4), 3);
    is("the last", x.told(5, 4), 9);
  }

  private static RoundTheModel studied() {
    RoundTheModel x = new RoundTheModel();
    studio(x);
    return x;
  }

  static void p04_ofDoesNotMatterTo0To3() {
    for (int of : new int[] {MIN, -1, 0, 6, MAX}) {
      RoundTheModel x = new RoundTheModel();
      int[] want = {0, 0, 5, 0};
      for (int what = 0; what < 4; what++) is("told(" + of + ", " + what + ")", x.told(of, what), want[what]);
    }
  }

  static void p04_sideGoesRound() {
    RoundTheModel x = new RoundTheModel();
    seatPaid(x, 0);
    for (int face = 0; face < 11; face++) {
      x.set(0, 0, face);
      for (int k = 0; k < 11; k++) {
        x.set(5, 0, (face + k) % 11);
        is("SIDE of " + (face + k) % 11 + ", FACE " + face, x.told(0, 9), k);
      }
    }
  }

  private static void awayBy(String name, int what) {
    RoundTheModel x = ruled("views " + name + ";warms 0;minds 0;");
    x.painter(0, 0, 0);
    int[] away = {0, 1, 2, 3, 4, 5, 5, 4, 3, 2, 1};
    for (int place = 0; place < 11; place++) {
      x.set(what, 0, place);
      for (int k = 0; k < 11; k++) {
        x.set(5, 0, (place + k) % 11);
        is(name + " at " + place + ", " + (place + k) % 11 + " is AWAY", x.told(0, 10), away[k]);
      }
    }
  }

  static void p04_lampIsAwayTheShorterWay() { awayBy("lamp", 1); }

  static void p04_stoveIsAwayTheShorterWay() { awayBy("stove", 2); }

  static void p04_nearIsNoneOneOrTwo() {
    RoundTheModel x = new RoundTheModel();
    seatPaid(x, 5);
    is("alone", x.told(0, 14), 0);
    seatPaid(x, 7);
    is("two further", x.told(0, 14), 0);
    x.set(5, 1, 3);
    is("two ahead", x.told(0, 14), 0);
    x.set(5, 1, 4);
    is("one ahead", x.told(0, 14), 1);
    x.set(5, 1, 6);
    is("one further", x.told(0, 14), 1);
    seatPaid(x, 4);
    is("both", x.told(0, 14), 2);
    is("one beside, one two away", x.told(1, 14), 1);
  }

  static void p04_nearGoesRound() {
    RoundTheModel x = new RoundTheModel();
    seatPaid(x, 10, 0, 9);
    is("10 by 0 and 9", x.told(0, 14), 2);
    is("0 by 10", x.told(1, 14), 1);
    is("9 by 10", x.told(2, 14), 1);
    x.set(5, 2, 1);
    is("0 by 10 and 1", x.told(1, 14), 2);
    is("1 by 0", x.told(2, 14), 1);
    is("10 by 0", x.told(0, 14), 1);
    x.set(5, 1, 5);
    is("10 and 1 are two apart", x.told(0, 14), 0);
  }

  private static RoundTheModel one(int kind, int number, String text) {
    RoundTheModel x = ruled(text);
    is("painter", x.painter(kind, number, 0), 0);
    return x;
  }

  static void p04_viewsHasItsBound() {
    String[] tell = {"-9999", "-1", "0", "1", "98", "99", "100", "9999"};
    int[] want = {0, 0, 0, 1, 98, 99, 99, 99};
    for (int i = 0; i < tell.length; i++)
      is("views " + tell[i], one(0, 0, "views " + tell[i] + ";warms 0;minds 0;").told(0, 10), want[i]);
    is("the bound of views is ahead of TALL's 2", one(2, 0, "views -1;warms 0;minds 0;").told(0, 10), 2);
    is("and so far below", one(2, 0, "views -9999;warms 0;minds 0;").told(0, 10), 2);
  }

  static void p04_warmsHasItsBound() {
    String[] tell = {"-9999", "-100", "-99", "-98", "98", "99", "100", "9999"};
    int[] want = {-99, -99, -99, -98, 98, 99, 99, 99};
    for (int i = 0; i < tell.length; i++)
      is("warms " + tell[i], one(0, 0, "views 0;warms " + tell[i] + ";minds 0;").told(0, 11), want[i]);
    is("the bound of warms is ahead of LATE's NUMBER", one(3, 9, "views 0;warms 100;minds 0;").told(0, 11), 90);
    RoundTheModel x = one(3, 9, "views 0;warms 9999;minds 0;");
    is("and so far above", x.told(0, 11), 90);
    is("LATE of 0", x.set(4, 0, 0), 9);
    is("WARMTH", x.told(0, 11), 99);
  }

  static void p04_mindsHasItsBound() {
    String[] tell = {"-9999", "-100", "-99", "-98", "98", "99", "100", "9999"};
    int[] want = {-99, -99, -99, -98, 98, 99, 99, 99};
    for (int i = 0; i < tell.length; i++)
      is("minds " + tell[i], one(0, 0, "views 0;warms 0;minds " + tell[i] + ";").told(0, 12), want[i]);
    is("the bound of minds is ahead of LEFT's 1", one(1, 0, "views 0;warms 0;minds -100;").told(0, 12), -98);
    is("and of LATE's", one(3, 0, "views 0;warms 0;minds -9999;").told(0, 12), -98);
  }

  static void p04_leftSeesTwiceFrom1To5() {
    RoundTheModel x = one(1, 0, "views 21;warms 0;minds 0;");
    int[] want = {21, 42, 42, 42, 42, 42, 21, 21, 21, 21, 21};
    for (int side = 0; side < 11; side++) {
      x.set(5, 0, side);
      is("SIDE " + side, x.told(0, 10), want[side]);
      is("SIDE " + side, x.told(0, 9), side);
    }
  }

  static void p04_leftsViewHasABound() {
    int[] tell = {0, 49, 50, 99}, want = {0, 98, 99, 99};
    for (int i = 0; i < 4; i++) {
      RoundTheModel x = one(1, 0, "views " + tell[i] + ";warms 0;minds 0;");
      is("SIDE 0", x.told(0, 10), tell[i]);
      x.set(5, 0, 5);
      is("SIDE 5", x.told(0, 10), want[i]);
    }
  }

  static void p04_tallsViewHasABound() {
    int[] tell = {0, 96, 97, 98, 99}, want = {2, 98, 99, 99, 99};
    for (int i = 0; i < 5; i++)
      is("views " + tell[i], one(2, 0, "views " + tell[i] + ";warms 0;minds 0;").told(0, 10), want[i]);
  }

  static void p04_lateTillPoseIsNumber() {
    RoundTheModel x = one(3, 5, "views 20;warms 0;minds 0;");
    int[] poses = {0, 4, 5, 6, 999}, want = {10, 10, 20, 20, 20};
    for (int i = 0; i < 5; i++) {
      x.set(3, 0, poses[i]);
      is("POSE " + poses[i], x.told(0, 10), want[i]);
    }
    x.set(3, 0, 0);
    x.set(4, 0, 0);
    is("NUMBER 0, POSE 0", x.told(0, 10), 20);
    x.set(4, 0, 1);
    is("NUMBER 1, POSE 0", x.told(0, 10), 10);
  }

  static void p04_latesHalfIsCut() {
    int[] tell = {0, 1, 2, 3, 21, 99}, half = {0, 0, 1, 1, 10, 49};
    for (int i = 0; i < 6; i++) {
      RoundTheModel x = one(3, 1, "views " + tell[i] + ";warms 0;minds 0;");
      is("half of " + tell[i], x.told(0, 10), half[i]);
      x.set(5, 0, 1);
      is("half of twice " + tell[i] + ": the bound is laid once", x.told(0, 10), tell[i]);
    }
  }

  static void p04_latesViewHasABound() {
    int[] tell = {49, 50, 99}, want = {98, 99, 99};
    for (int i = 0; i < 3; i++) {
      RoundTheModel x = one(3, 0, "views " + tell[i] + ";warms 0;minds 0;");
      x.set(5, 0, 1);
      is("twice " + tell[i], x.told(0, 10), want[i]);
    }
  }

  static void p04_oldSeesUpToThreeFromTheLamp() {
    RoundTheModel x = one(4, 0, "views 20;warms 0;minds 0;");
    int[] want = {22, 22, 22, 22, 0, 0, 0, 0, 22, 22, 22};
    for (int lamp = 0; lamp < 11; lamp++) {
      x.set(1, 0, lamp);
      is("LAMP at " + lamp, x.told(0, 10), want[lamp]);
    }
    is("the bound", one(4, 0, "views 98;warms 0;minds 0;").told(0, 10), 99);
  }

  static void p04_paidSeesNothing() {
    RoundTheModel x = one(5, 9, "views 99;warms 99;minds 99;");
    for (int easel = 0; easel < 11; easel++) {
      x.set(5, 0, easel);
      is("VIEW", x.told(0, 10), 0);
      is("WARMTH", x.told(0, 11), 1);
      is("MINDS", x.told(0, 12), 0);
      is("PLEASED", x.told(0, 13), 1);
    }
  }

  static void p04_tallBurnsBelowTwoFromTheStove() {
    for (int v : new int[] {7, 99, 0}) {
      for (int sign = -1; sign < 2; sign += 2) {
        RoundTheModel x = one(2, 0, "views 0;warms " + (sign < 0 ? "-" : "") + v + ";minds 0;");
        for (int stove = 0; stove < 11; stove++) {
          x.set(2, 0, stove);
          boolean burns = stove == 0 || stove == 1 || stove == 10;
          is("STOVE at " + stove, x.told(0, 11), burns ? -sign * v : sign * v);
        }
      }
    }
  }

  static void p04_latesWarmthHasABound() {
    int[] tell = {89, 90, 91, 99}, want = {-98, -99, -99, -99};
    for (int i = 0; i < 4; i++)
      is("warms -" + tell[i], one(3, 9, "views 0;warms -" + tell[i] + ";minds 0;").told(0, 11), want[i]);
    is("warms 99", one(3, 9, "views 0;warms 99;minds 0;").told(0, 11), 90);
    is("warms 99, NUMBER 0", one(3, 0, "views 0;warms 99;minds 0;").told(0, 11), 99);
  }

  static void p04_oldsWarmthHasABound() {
    int[] tell = {0, 49, 50, 99}, want = {0, 98, 99, 99};
    for (int i = 0; i < 4; i++) {
      RoundTheModel warm = one(4, 0, "views 0;warms " + tell[i] + ";minds 0;");
      RoundTheModel cold = one(4, 0, "views 0;warms -" + tell[i] + ";minds 0;");
      is("warms " + tell[i], warm.told(0, 11), want[i]);
      is("warms -" + tell[i], cold.told(0, 11), -want[i]);
      for (int away = 1; away < 3; away++) {
        warm.set(2, 0, away);
        cold.set(2, 0, away);
        is("warms " + tell[i] + ", STOVE AWAY " + away, warm.told(0, 11), away < 2 ? -want[i] : want[i]);
        is("warms -" + tell[i] + ", STOVE AWAY " + away, cold.told(0, 11), away < 2 ? want[i] : -want[i]);
      }
    }
  }

  static void p04_leftAndLateMindOneMore() {
    String[] tell = {"-99", "-1", "0", "97", "98", "99"};
    int[] want = {-98, 0, 1, 98, 99, 99};
    for (int i = 0; i < tell.length; i++) {
      is("LEFT, minds " + tell[i], one(1, 0, "views 0;warms 0;minds " + tell[i] + ";").told(0, 12), want[i]);
      is("LATE, minds " + tell[i], one(3, 9, "views 0;warms 0;minds " + tell[i] + ";").told(0, 12), want[i]);
    }
  }

  static void p04_oldMindsWhoIsNear() {
    for (String tell : new String[] {"99", "-99"}) {
      RoundTheModel x = one(4, 0, "views 0;warms 0;minds " + tell + ";");
      is("nobody is near", x.told(0, 12), 0);
      seatPaid(x, 10);
      is("one is", x.told(0, 12), 1);
      seatPaid(x, 1);
      is("two are", x.told(0, 12), 2);
      is("TALL minds nobody", one(2, 0, "views 0;warms 0;minds " + tell + ";").told(0, 12), 0);
    }
  }

  static void p04_pleasedIsViewAndWarmthLessMinds() {
    is("as much as can be", one(0, 0, "views 99;warms 99;minds -99;").told(0, 13), 297);
    is("as little as can be", one(0, 0, "views 0;warms -99;minds 99;").told(0, 13), -198);
    is("nothing", one(0, 0, "views 1;warms 1;minds 2;").told(0, 13), 0);
    is("VIEW alone", one(0, 0, "views 1;warms 0;minds 0;").told(0, 13), 1);
    is("WARMTH alone", one(0, 0, "views 0;warms 1;minds 0;").told(0, 13), 1);
    is("MINDS alone", one(0, 0, "views 0;warms 0;minds 1;").told(0, 13), -1);
  }
}
