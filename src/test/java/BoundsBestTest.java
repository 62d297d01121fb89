/** Promises 12 to 15: best, seat, change, round. */
public final class BoundsBestTest extends Bounds {
  public static void main(String[] args) throws Exception { runAll(BoundsBestTest.class, 12, 15); }

  private static RoundTheModel ruledOne(String views, int easel) {
    RoundTheModel x = ruled("views " + views + ";warms 0;minds 0;");
    x.painter(0, 0, easel);
    return x;
  }

  // ---- 12: best

  static void p12_nIs0To10() {
    RoundTheModel x = new RoundTheModel();
    seatPaid(x, 0);
    for (int n : new int[] {0, 1, 9, 10}) {
      is("best(" + n + ", 1)", x.best(n, 1), n);
      is("best(" + n + ", 3)", x.best(n, 3), n);
    }
    for (int what = 0; what < 4; what++) {
      int which = what;
      unfeltOf("best(.., " + what + ")", Bounds::studio, (y, n) -> y.best(n, which), NOPE, -1, 11, 40, MIN, MAX);
    }
  }

  static void p12_whatIs0To3() {
    unfeltOf("best(1, ..)", Bounds::studio, (y, what) -> y.best(1, what), NOPE, -1, 4, 5, MIN, MAX);
    RoundTheModel x = new RoundTheModel();
    seatPaid(x, 0);
    is("TURN", x.best(1, 0), 0);
    is("LEAST", x.best(1, 3), 1);
  }

  static void p12_nobody() {
    for (int n : new int[] {0, 1, 10})
      for (int what = 0; what < 4; what++) is("best(" + n + ", " + what + ")", new RoundTheModel().best(n, what), 0);
  }

  static void p12_ofNoPoses() {
    RoundTheModel x = new RoundTheModel();
    studio(x);
    for (int what = 0; what < 4; what++) is("best(0, " + what + ")", x.best(0, what), 0);
  }

  static void p12_ofLikeOnesTheFirst() {
    RoundTheModel x = new RoundTheModel();
    seatPaid(x, 0, 4);
    is("TURN: all alike", x.best(10, 0), 0);
    is("FAIR: all alike", x.best(10, 2), 0);
    // by one POSE nothing has moved yet
    is("TURN of 1", ruledOne("50*(side=0)", 3).best(1, 0), 0);
  }

  static void p12_turnsAreFirst() {
    // SIDE 1 in the second POSE: the step is 1 more than the turn; the first is no turn and a step of 1
    RoundTheModel x = ruledOne("50*(side=1)", 0);
    is("TURN", x.best(2, 0), 1);
    is("FAIR", x.best(2, 2), 1);
    is("SUM", x.best(2, 1), 50);
    // SIDE 10 by a turn of 0 and a step of 10, ahead of a turn of 1 and no step
    x = ruledOne("50*(side=10)", 0);
    is("TURN", x.best(2, 0), 10);
    // at the LAMP, and SIDE 1: one stays, the model turns by 10
    x = ruledOne("50*(side=1 and lamp=0)", 0);
    is("TURN", x.best(2, 0), 1000);
    is("LEAST", x.best(2, 3), 50);
  }

  static void p12_theLastOfAll() {
    // at 10, which alone is 1 from the LAMP and 5 from the STOVE, and right in front
    RoundTheModel x = ruledOne("50*(side=0 and lamp=1 and stove=5)", 0);
    is("TURN", x.best(2, 0), 1010);
    is("SUM", x.best(2, 1), 50);
    is("FAIR", x.best(2, 2), 1010);
    is("LEAST", x.best(2, 3), 50);
  }

  static void p12_sumAndLeastDiffer() {
    RoundTheModel x = ruled("views 10*(side=1)+9*(side=0);warms 0;minds 0;");
    x.painter(0, 0, 0);
    x.painter(0, 0, 5);
    // they are 5 apart: in the second POSE who was at 0 may be at 1 (10), or at 0 again (9), or the other there
    is("SUM", x.best(2, 1), 9 + 10);
    is("TURN", x.best(2, 0), 1);
    // 9 and 0, and then the other is to have 10: it has to come from 5 to 1, 7 further on
    is("LEAST", x.best(2, 3), 9);
    is("FAIR: 7 to SIDE 1, but 6 to SIDE 0 is 9 as well", x.best(2, 2), 6);
  }

  static void p12_below0() {
    RoundTheModel x = ruled("views 0;warms -1-side;minds 0;");
    x.painter(0, 0, 10);
    is("SUM", x.best(2, 1), -12);
    is("TURN", x.best(2, 0), 1);
    is("LEAST", x.best(2, 3), -12);
    is("FAIR", x.best(2, 2), 1);
    is("SUM of 10", x.best(10, 1), -11 - 1 - 2 - 3 - 4 - 5 - 6 - 7 - 8 - 9);
  }

  static void p12_inThoughtAlone() {
    for (int what = 0; what < 4; what++) {
      int which = what;
      RoundTheModel x = new RoundTheModel();
      studio(x);
      unfelt("best(10, " + what + ")", Bounds::studio, y -> y.best(10, which), x.best(10, which));
    }
    RoundTheModel x = ruledOne("pose-990", 0);
    x.set(3, 0, 999);
    is("POSE passes 999", x.best(10, 1), 9 + 10 + 11 + 12 + 13 + 14 + 15 + 16 + 17 + 18);
    is("POSE", x.count(1), 999);
  }

  // ---- 13: seat

  static void p13_painterIsOneOfThem() {
    for (int what = 0; what < 2; what++) {
      int which = what;
      unfeltOf("seat", Bounds::studio, (y, who) -> y.seat(who, which), NOPE, -1, 4, 5, 6, MIN, MAX);
      unfeltOf("seat", Bounds::crowded, (y, who) -> y.seat(who, which), NOPE, -1, 6);
      is("nobody", new RoundTheModel().seat(0, what), NOPE);
    }
    RoundTheModel x = new RoundTheModel();
    seatPaid(x, 1, 2, 3, 4, 5, 6);
    is("the first", x.seat(0, 1), 6);
    is("the last", x.seat(5, 1), 6);
  }

  static void p13_whatIs0Or1() {
    unfeltOf("seat(0, ..)", Bounds::studio, (y, what) -> y.seat(0, what), NOPE, -1, 2, 3, MIN, MAX);
  }

  static void p13_ofLikeOnesTheFirst() {
    RoundTheModel x = new RoundTheModel();
    seatPaid(x, 5);
    is("all alike", x.seat(0, 0), 0);
    seatPaid(x, 0);
    is("0 is taken", x.seat(0, 0), 1);
    is("one's own is 0", x.seat(1, 0), 0);
    seatPaid(x, 1, 2, 3, 4);
    is("0 to 4 are taken, 5 is one's own", x.seat(0, 0), 5);
    is("one's own, of five and that", x.seat(5, 0), 4);
  }

  static void p13_theFirstAndTheLastEasel() {
    RoundTheModel x = ruledOne("9*(side=10)", 4);
    is("SEAT at 10", x.seat(0, 0), 10);
    is("WHOLE then", x.seat(0, 1), 9);
    x.set(0, 0, 1);
    is("SEAT at 0", x.seat(0, 0), 0);
    x.set(5, 0, 0);
    is("SEAT is one's own", x.seat(0, 0), 0);
    is("WHOLE then", x.seat(0, 1), 9);
  }

  static void p13_anothersIsNone() {
    RoundTheModel x = ruledOne("9*(side=10)+3*(side=7)", 4);
    seatPaid(x, 10);
    is("SEAT", x.seat(0, 0), 7);
    is("WHOLE then", x.seat(0, 1), 4);
    is("nothing moved", x.told(0, 5), 4);
  }

  static void p13_wholeNotOnesOwn() {
    RoundTheModel x = new RoundTheModel();
    x.painter(0, 0, 3);
    seatPaid(x, 10, 2);
    // who is PAID at 2 leaves: the other minds no more, by 1; where it is not near, it is the first of these: 0
    is("SEAT", x.seat(2, 0), 0);
    is("WHOLE then", x.seat(2, 1), 12);
    is("WHOLE now", x.ring(0), 11);
  }

  static void p13_below0() {
    RoundTheModel x = ruled("views 0;warms -1-side;minds 0;");
    x.painter(0, 0, 7);
    is("SEAT", x.seat(0, 0), 0);
    is("WHOLE then", x.seat(0, 1), -1);
  }

  // ---- 14: change

  static void p14_whatIs0To7() {
    unfeltOf("change", Bounds::studio, (y, what) -> y.change(what), NOPE, -1, 8, 9, MIN, MAX);
    is("change(-1) of nobody", new RoundTheModel().change(-1), NOPE);
    is("change(8) of nobody", new RoundTheModel().change(8), NOPE);
    for (int what = 0; what < 8; what++) {
      int which = what;
      RoundTheModel x = new RoundTheModel();
      studio(x);
      unfelt("change(" + what + ")", Bounds::studio, y -> y.change(which), x.change(which));
    }
  }

  static void p14_nobodyAndOne() {
    int[] nobody = {NONE, 0, 0, 0, 0, 0, 0, 0};
    int[] one = {NONE, 1, 0, 1, 0, 1, 0, 1};
    for (int what = 0; what < 8; what++) {
      RoundTheModel x = new RoundTheModel();
      is("change(" + what + ") of nobody", x.change(what), nobody[what]);
      seatPaid(x, 6);
      is("change(" + what + ") of one", x.change(what), one[what]);
    }
  }

  static void p14_changeHasToBeMore() {
    RoundTheModel x = new RoundTheModel();
    seatPaid(x, 6, 8);
    is("alike", x.change(0), NONE);
    is("WHOLE as so", x.change(1), 2);
    RoundTheModel y = ruled("views number+side;warms 0;minds 0;");
    y.painter(0, 9, 1);
    y.painter(0, 0, 5);
    is("alike, of unlike NUMBERS", y.change(0), NONE);
    is("WHOLE as so", y.change(1), 15);
    RoundTheModel z = ruled("views number*(side=1);warms 0;minds 0;");
    z.painter(0, 3, 1);
    z.painter(0, 2, 5);
    is("less", z.change(0), NONE);
    is("WHOLE as so", z.change(1), 3);
    z.set(4, 1, 4);
    is("1 more", z.change(0), 1);
    is("WHOLE then", z.change(1), 4);
    is("nothing moved", z.told(0, 5), 1);
  }

  static void p14_theLesserFirstAndOfLikeOnesTheFirst() {
    RoundTheModel x = ruled("views number*(side=1);warms 0;minds 0;");
    x.painter(0, 0, 10);
    x.painter(0, 7, 8);
    x.painter(0, 7, 6);
    x.painter(0, 1, 1);
    is("1 and 3, ahead of 2 and 3", x.change(0), 13);
    is("WHOLE then", x.change(1), 7);
    x.set(4, 1, 0);
    is("2 and 3", x.change(0), 23);
    x.set(5, 3, 2);
    x.set(5, 1, 1);
    is("1 and 2", x.change(0), 12);
    x.set(5, 1, 8);
    x.set(5, 0, 1);
    is("0 and 2, ahead of 0 and 3", x.change(0), 2);
  }

  static void p14_theLastPairOfSix() {
    RoundTheModel x = ruled("views number*(side=1);warms 0;minds 0;");
    for (int i = 0; i < 4; i++) x.painter(0, 0, i + 2);
    x.painter(0, 0, 1);
    x.painter(0, 9, 10);
    is("4 and 5", x.change(0), 45);
    is("WHOLE then", x.change(1), 9);
    x.set(5, 4, 7);
    x.set(5, 0, 1);
    is("0 and 5", x.change(0), 5);
  }

  private static void placeBy(String name, int what, int easel) {
    RoundTheModel x = ruledOne("9-" + name, easel);
    is(name + " at " + easel, x.change(what), easel);
    is("WHOLE then", x.change(what + 1), 9);
    x = ruledOne("9*(" + name + "=5)", easel);
    int first = easel == 0 ? 5 : Math.min((easel + 5) % 11, (easel + 6) % 11);
    is(name + " 5 from " + easel + ", of two the first", x.change(what), first);
    x = ruledOne("3", easel);
    is(name + ", all alike", x.change(what), 0);
    is("WHOLE then", x.change(what + 1), 3);
    is("nothing moved", x.told(0, 0) + x.told(0, 1), 0);
    is("nothing moved", x.told(0, 2), 5);
  }

  static void p14_light() { for (int easel = 0; easel < 11; easel++) placeBy("lamp", 2, easel); }

  static void p14_heat() { for (int easel = 0; easel < 11; easel++) placeBy("stove", 4, easel); }

  static void p14_front() {
    for (int easel = 0; easel < 11; easel++) {
      RoundTheModel x = ruledOne("99-side", easel);
      is("FRONT at " + easel, x.change(6), easel);
      is("WHOLE then", x.change(7), 99);
      x = ruledOne("side", easel);
      is("FRONT one behind " + easel + ", round", x.change(6), (easel + 1) % 11);
      is("WHOLE then", x.change(7), 10);
      x = ruledOne("3", easel);
      is("FRONT, all alike", x.change(6), 0);
      is("nothing moved", x.told(0, 0), 0);
    }
  }

  static void p14_below0() {
    RoundTheModel x = ruled("views 0;warms -1-side-lamp-stove;minds 0;");
    x.painter(0, 0, 7);
    // SIDE 7, LAMP AWAY 4, STOVE AWAY 2
    int[] want = {NONE, -14, 7, -10, 7, -12, 7, -7};
    for (int what = 0; what < 8; what++) is("change(" + what + ")", x.change(what), want[what]);
  }

  // ---- 15: round

  static void p15_painterIsOneOfThem() {
    unfeltOf("round(.., 1)", Bounds::studio, (y, who) -> y.round(who, 1), BAD, -1, 4, 5, 6, MIN, MAX);
    unfeltOf("round(.., 1)", Bounds::crowded, (y, who) -> y.round(who, 1), BAD, -1, 6);
    is("nobody", new RoundTheModel().round(0, 1), BAD);
    RoundTheModel x = new RoundTheModel();
    seatPaid(x, 1, 2, 3, 4, 5, 6);
    is("the first", x.round(0, 1), 11);
    is("the last", x.round(5, 1), 11);
  }

  static void p15_turnStep() {
    unfeltOf("round(0, ..)", Bounds::studio, (y, t) -> y.round(0, t), BAD, -1, 11, 99, 111, 1011, 1100, MIN, MAX);
    RoundTheModel x = new RoundTheModel();
    seatPaid(x, 3);
    for (int turn = 0; turn <= 10; turn++)
      for (int step = 0; step <= 10; step++)
        is("round(0, " + (100 * turn + step) + ")", x.round(0, 100 * turn + step), turn == step ? NONE : 11);
  }

  static void p15_from0() {
    RoundTheModel x = new RoundTheModel();
    seatPaid(x, 0);
    for (int had = 0; had < 11; had++) {
      is(had + " are HAD: the rest", x.round(0, 1), 11 - had);
      is(had + " are HAD: nobody moves", x.round(0, 505), had == 10 ? 1 : NONE);
      x.pose(1);
    }
    is("every SIDE is HAD", x.round(0, 1), 0);
    is("every SIDE is HAD, nobody moves", x.round(0, 0), 0);
    seatPaid(x, 5);
    is("who came later", x.round(1, 1), 11);
    is("who came later, nobody moves", x.round(1, 0), NONE);
  }

  static void p15_theOtherWayRound() {
    RoundTheModel x = new RoundTheModel();
    seatPaid(x, 0);
    x.pose(1);
    // SIDE 0 is HAD, one sits at SIDE 1: 1, 0, 10 .. 2
    is("back", x.round(0, 100), 11);
    x.pose(1);
    is("back, with two", x.round(0, 10), 11);
    is("further on", x.round(0, 1), 9);
  }

  static void p15_atTheLastPose() {
    RoundTheModel x = new RoundTheModel();
    seatPaid(x, 0);
    x.set(3, 0, 999);
    is("POSE passes 999 in thought", x.round(0, 100), 11);
    is("POSE", x.count(1), 999);
    RoundTheModel y = new RoundTheModel();
    studio(y);
    unfelt("round(0, 1)", Bounds::studio, z -> z.round(0, 1), y.round(0, 1));
    unfelt("round(3, 404)", Bounds::studio, z -> z.round(3, 404), NONE);
  }
}
