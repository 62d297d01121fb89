/** For each promise: ordinary inputs, the edges that the document names, wrong inputs; the answers are by hand. */
public final class PromiseTest {
  private static final Due due = new Due();
  private static final int NOPE = -100000;
  private static final long NO = -4611686018427387904L;

  public static void main(String[] args) {
    newObject();
    set();
    painter();
    told();
    kinds();
    boundIsLaidOnce();
    feed();
    text();
    textValues();
    textsAreApart();
    faults();
    openOnes();
    force();
    pose();
    pleasedHasABound();
    run();
    ring();
    mean();
    best();
    seat();
    change();
    round();
    tells();
    film();
    drawn();
    chance();
    imageAndBack();
    count();
    sheet();
    cell();
    copy();
    painters();
    taken();
    due.end();
  }

  private static RoundTheModel ruled(String text) {
    RoundTheModel x = new RoundTheModel();
    due.is("text '" + text + "'", Due.read(x, text), 1);
    due.is("force(1)", x.force(1), 0);
    return x;
  }

  // Promise 1
  private static void newObject() {
    RoundTheModel x = new RoundTheModel();
    int[] want = {0, 0, 11, 1, 0, 0};
    for (int i = 0; i < 6; i++) due.is("new: count(" + i + ")", x.count(i), want[i]);
    due.is("new: FACE", x.told(0, 0), 0);
    due.is("new: LAMP", x.told(0, 1), 0);
    due.is("new: STOVE", x.told(0, 2), 5);
    due.is("new: POSE", x.told(0, 3), 0);
    due.is("new: nobody", x.told(0, 4), NOPE);
    for (int i = 0; i < 4; i++) due.is("new: sheet " + i + " is missing", x.cell(i, 0, 0), -11);
    due.is("new: no image", x.back(), -3);
    RoundTheModel y = new RoundTheModel();
    y.set(0, 0, 7);
    y.painter(0, 0, 0);
    due.is("objects are apart", x.told(0, 0), 0);
    due.is("objects are apart", x.count(0), 0);
  }

  // Promise 2
  private static void set() {
    RoundTheModel x = new RoundTheModel();
    due.is("set FACE, whoever", x.set(0, -7, 10), 0);
    due.is("set FACE", x.set(0, 99, 3), 10);
    due.is("set LAMP", x.set(1, 99, 4), 0);
    due.is("set STOVE", x.set(2, -1, 6), 5);
    due.is("set POSE", x.set(3, 6, 999), 0);
    int[] all = {3, 4, 6, 999};
    for (int i = 0; i < 4; i++) {
      due.is("told what was set", x.told(9, i), all[i]);
      due.is("set below 0", x.set(i, 0, -1), -2);
      due.is("set above", x.set(i, 0, i == 3 ? 1000 : 11), -2);
      due.is("nothing changed", x.told(0, i), all[i]);
    }
    due.is("set NUMBER of nobody", x.set(4, 0, 1), -2);
    due.is("set EASEL of nobody", x.set(5, 0, 1), -2);
    x.painter(1, 3, 2);
    x.painter(0, 0, 4);
    due.is("set NUMBER", x.set(4, 0, 9), 3);
    due.is("set NUMBER 0", x.set(4, 1, 0), 0);
    due.is("set NUMBER above", x.set(4, 0, 10), -2);
    due.is("set NUMBER below", x.set(4, 0, -1), -2);
    due.is("set NUMBER of none such", x.set(4, 2, 1), -2);
    due.is("set NUMBER of -1", x.set(4, -1, 1), -2);
    due.is("set EASEL 0", x.set(5, 0, 0), 2);
    due.is("set EASEL free", x.set(5, 0, 10), 0);
    due.is("set EASEL own", x.set(5, 0, 10), 10);
    due.is("set EASEL of another", x.set(5, 0, 4), -2);
    due.is("set EASEL 11", x.set(5, 0, 11), -2);
    due.is("set EASEL -1", x.set(5, 0, -1), -2);
    due.is("set EASEL left", x.set(5, 1, 2), 4);
    due.is("NUMBER stands", x.told(0, 4), 9);
    due.is("EASEL stands", x.told(0, 5), 10);
    due.is("set what -1", x.set(-1, 0, 0), -2);
    due.is("set what 6", x.set(6, 0, 0), -2);
  }

  // Promise 3
  private static void painter() {
    RoundTheModel x = new RoundTheModel();
    due.is("painter kind -1", x.painter(-1, 0, 0), -2);
    due.is("painter kind 6", x.painter(6, 0, 0), -2);
    due.is("painter number -1", x.painter(0, -1, 0), -2);
    due.is("painter number 10", x.painter(0, 10, 0), -2);
    due.is("painter easel -1", x.painter(0, 0, -1), -2);
    due.is("painter easel 11", x.painter(0, 0, 11), -2);
    due.is("nobody came", x.count(0), 0);
    for (int i = 0; i < 6; i++) {
      due.is("painter " + i, x.painter(5 - i, 9 - i, 10 - i), i);
      due.is("KIND", x.told(i, 6), 5 - i);
      due.is("NUMBER", x.told(i, 4), 9 - i);
      due.is("EASEL", x.told(i, 5), 10 - i);
      due.is("HAD", x.told(i, 7), 0);
      due.is("PLEASED", x.told(i, 8), 0);
    }
    due.is("painter where one sits, and full", x.painter(0, 0, 10), -2);
    due.is("painter full", x.painter(0, 0, 0), -4);
    due.is("six", x.count(0), 6);
  }

  // Promise 4
  private static void told() {
    RoundTheModel x = new RoundTheModel();
    x.set(0, 0, 9);
    x.set(1, 0, 1);
    x.set(2, 0, 10);
    x.painter(0, 7, 2);
    x.painter(0, 8, 1);
    x.painter(0, 8, 3);
    // SIDE 2 - 9 + 11 = 4, views 6; STOVE AWAY 3, warms 2; NEAR 2
    int[] want = {9, 1, 10, 0, 7, 2, 0, 0, 0, 4, 6, 2, 2, 6, 2};
    for (int i = 0; i < want.length; i++) due.is("told(0, " + i + ")", x.told(0, i), want[i]);
    due.is("NEAR of one by one's side", x.told(1, 14), 1);
    x.set(5, 1, 0);
    x.set(5, 2, 10);
    due.is("10 is next to 0", x.told(1, 14), 1);
    due.is("0 is next to 10", x.told(2, 14), 1);
    due.is("told what -1", x.told(0, -1), NOPE);
    due.is("told what 15", x.told(0, 15), NOPE);
    for (int i = 4; i < 15; i++) {
      due.is("told of 3, " + i, x.told(3, i), NOPE);
      due.is("told of -1, " + i, x.told(-1, i), NOPE);
    }
  }

  private static void seen(RoundTheModel x, int who, int view, int warmth, int minds) {
    due.is("VIEW of " + who, x.told(who, 10), view);
    due.is("WARMTH of " + who, x.told(who, 11), warmth);
    due.is("MINDS of " + who, x.told(who, 12), minds);
    due.is("PLEASED by a POSE of " + who, x.told(who, 13), view + warmth - minds);
  }

  // Terms: VIEW, WARMTH, MINDS
  private static void kinds() {
    RoundTheModel x = ruled("views 21;warms 7;minds 3;");
    for (int kind = 0; kind < 6; kind++) x.painter(kind, 4, kind + 1);
    // easels 1 .. 6, FACE 0: SIDES 1 .. 6; STOVE 5 AWAY 4 3 2 1 0 1; LAMP AWAY 1 2 3 4 5 5
    seen(x, 0, 21, 7, 3);
    seen(x, 1, 42, 7, 4);
    seen(x, 2, 23, 7, 0);
    seen(x, 3, 21, 3, 4);
    seen(x, 4, 0, -14, 2);
    seen(x, 5, 0, 1, 0);
    x.set(3, 0, 3);
    due.is("LATE, POSE below NUMBER", x.told(3, 10), 21);
    x.set(3, 0, 4);
    due.is("LATE, POSE is NUMBER", x.told(3, 10), 42);
    x.set(3, 0, 0);
    x.set(0, 0, 4);
    due.is("LEFT, SIDE 9", x.told(1, 10), 21);
    due.is("LATE, SIDE 0: half of 21", x.told(3, 10), 10);
    for (int side = 0; side < 11; side++) {
      x.set(0, 0, (2 - side + 11) % 11);
      due.is("LEFT, SIDE " + side, x.told(1, 10), side >= 1 && side <= 5 ? 42 : 21);
    }
    int[] away = {5, 4, 3, 2, 1, 0, 1, 2, 3, 4, 5};
    for (int e = 0; e < 11; e++) {
      x.set(1, 0, e);
      due.is("OLD, LAMP " + e, x.told(4, 10), away[e] > 3 ? 0 : 23);
    }
    int[] tall = {7, 7, -7, -7, -7, 7, 7, 7, 7, 7, 7};
    for (int e = 0; e < 11; e++) {
      x.set(2, 0, e);
      due.is("TALL, STOVE " + e, x.told(2, 11), tall[e]);
      due.is("OLD, STOVE " + e, x.told(4, 11), e >= 4 && e <= 6 ? -14 : 14);
    }
  }

  private static void boundIsLaidOnce() {
    RoundTheModel x = ruled("views 99;warms 99;minds 99;");
    x.painter(1, 0, 1);
    x.painter(2, 0, 5);
    x.painter(3, 9, 2);
    x.painter(4, 0, 0);
    seen(x, 0, 99, 99, 99);
    seen(x, 1, 99, -99, 0);
    // half of 198 is 99: the bound does not come ahead of the half
    seen(x, 2, 99, 90, 99);
    seen(x, 3, 99, 99, 1);
    x.set(2, 0, 1);
    due.is("OLD by the stove", x.told(3, 11), -99);
    x = ruled("views 0 - 5;warms 0 - 95;minds 0 - 99;");
    x.painter(3, 9, 3);
    x.painter(2, 0, 8);
    x.painter(1, 0, 10);
    seen(x, 0, 0, -99, -98);
    seen(x, 1, 2, -95, 0);
    seen(x, 2, 0, -95, -98);
    x = ruled("views 9999*9999;warms 5000;minds 0-5000;");
    x.painter(0, 0, 0);
    seen(x, 0, 99, 99, -99);
    x = ruled("views 0-9999;warms 0-5000;minds 5000;");
    x.painter(0, 0, 0);
    x.painter(1, 0, 1);
    seen(x, 0, 0, -99, 99);
    due.is("LEFT's MINDS has the bound", x.told(1, 12), 99);
  }

  // Promise 5
  private static void feed() {
    RoundTheModel x = new RoundTheModel();
    due.is("feed -1", x.feed(-1), -2);
    due.is("feed 256", x.feed(256), -2);
    for (int i = 1; i <= 160; i++) due.is("feed", x.feed(i == 2 ? 255 : 0), i);
    due.is("feed full", x.feed(32), -4);
    due.is("feed wrong, and full", x.feed(256), -2);
    due.is("160 bytes", x.count(4), 160);
    due.is("a byte that begins none", x.text(), -100);
    due.is("empty then", x.count(4), 0);
  }

  // Promise 6
  private static void text() {
    RoundTheModel x = new RoundTheModel();
    due.is("text of nothing", x.text(), -100);
    for (int i = 1; i < 6; i++) {
      due.is("text " + i, Due.read(x, "views " + i + ";warms 0;minds 0;"), i);
      due.is("tape is empty", x.count(4), 0);
      due.is("TEXTS", x.count(3), i + 1);
      if (i == 5) break;
      due.is("text with a fault", Due.read(x, "views " + i), -107);
      due.is("tape is empty", x.count(4), 0);
      due.is("TEXTS", x.count(3), i + 1);
    }
    due.is("text FULL", Due.read(x, "views 1;warms 0;minds 0;"), -4);
    due.is("tape stays", x.count(4), 24);
    due.is("text FULL again", x.text(), -4);
    x.feed('#');
    due.is("text FULL, and with a fault", x.text(), -4);
    due.is("tape stays", x.count(4), 25);
    due.is("THE RULE stays", x.count(5), 0);
    String longest = "views 1" + " ".repeat(136) + ";warms 2;minds 3;";
    due.is("a text of 160 bytes", longest.length(), 160);
    due.is("a text of 160 bytes", Due.read(new RoundTheModel(), longest), 1);
  }

  private static void value(String e, int want) {
    RoundTheModel x = ruled("views 0;warms " + e + ";minds 0;");
    x.set(3, 0, 17);
    x.set(1, 0, 9);
    x.set(0, 0, 3);
    x.painter(0, 6, 2);
    x.painter(0, 0, 1);
    // side 10, lamp 4, stove 3, number 6, pose 17, near 1
    due.is(e, x.told(0, 11), want);
  }

  private static void textValues() {
    value("side", 10);
    value("lamp", 4);
    value("stove", 3);
    value("number", 6);
    value("pose", 17);
    value("near", 1);
    value("7", 7);
    value("007", 7);
    value("1+2*3", 7);
    value("(1+2)*3", 9);
    value("10-4-3", 3);
    value("10-(4-3)", 9);
    value("- 5+7", 2);
    value("-2*-3", 6);
    value("--5", 5);
    value("3 - -4", 7);
    value("1<2", 1);
    value("2<2", 0);
    value("-1<0", 1);
    value("2=2", 1);
    value("2=3", 0);
    value("1+1=2", 1);
    value("(3<2)+5", 5);
    value("not 0", 1);
    value("not 7", 0);
    value("not not 7", 1);
    value("not 1=2", 1);
    value("5 and 7", 1);
    value("5 and 0", 0);
    value("0 or 7", 1);
    value("0 or 0", 0);
    value("1 or 0 and 0", 1);
    value("(1 or 0) and 0", 0);
    value("not 0 and 0", 0);
    value("not (0 and 0)", 1);
    value("-1 and 1", 1);
    value("9999*9999*9999 < 0", 1);
    value("9999*9999*21 < 0", 0);
    value("9999*9999*22 < 0", 1);
    // 65536 * 65536 wraps to 0
    value("(4096*16)*(4096*16)", 0);
    value("(4096*16)*(4096*8)-1 < 0", 0);
    value("-1 and 0-1", 1);
    value("1 and 1", 1);
    value("1 or 1", 1);
    // as many operands wait as can, and the innermost settles it
    String level = "0 or 1 and 1<1+1*(";
    value(level.repeat(5) + "0 or 1 and 1<1+1*1" + ")".repeat(5), 1);
    value(level.repeat(5) + "0 or 1 and 1<1+1*0" + ")".repeat(5), 0);
    value("\n side\n\n", 10);
    value("side*2-lamp*stove+near", 9);
  }

  /** Five long texts on one object, each as it was read. */
  private static void textsAreApart() {
    RoundTheModel x = new RoundTheModel();
    x.painter(0, 0, 0);
    for (int i = 1; i < 6; i++)
      due.is("a long text", Due.read(x, "views " + "1+".repeat(20) + i + ";warms " + "1+".repeat(10) + i + ";minds " + i + ";"), i);
    for (int i = 5; i > 0; i--) {
      x.force(i);
      seen(x, 0, 20 + i, 10 + i, i);
    }
  }

  private static void fault(String text, int place) {
    due.is("fault of '" + text + "'", Due.read(new RoundTheModel(), text), -100 - place);
  }

  private static void faults() {
    fault("", 0);
    fault("   ", 3);
    fault(" ".repeat(160), 160);
    fault("a".repeat(160), 0);
    fault("views 1" + "\n".repeat(153), 160);
    fault("view 1;", 0);
    fault(" warms 1;", 1);
    fault("views;", 5);
    fault("views 1 warms", 8);
    fault("views 1; minds", 9);
    fault("views 1;warms 1;minds 1", 23);
    fault("views 1;warms 1;minds 1  ", 25);
    fault("views 1;warms 1;minds 1;;", 24);
    fault("views 1;warms 1;minds 1; views", 25);
    fault("views 1;warms 1;minds 1; #", 25);
    fault("views 12345;", 6);
    fault("views 1 12345;", 8);
    fault("views 00001;", 6);
    fault("views side1;", 10);
    fault("views 1side;", 7);
    fault("views sides;", 6);
    fault("views sid;", 6);
    fault("views Side;", 6);
    fault("views hide;", 6);
    fault("views sidez;", 6);
    fault("views 1 nor 1;", 8);
    fault("piews 1;", 0);
    fault("views 1", 7);
    fault("views", 5);
    fault("views 1\t;", 7);
    fault("views views;", 6);
    fault("views or 1;", 6);
    fault("views 1 or;", 10);
    fault("views 1 and or 1;", 12);
    fault("views 1 < 2 < 3;", 12);
    fault("views 1 = 2 < 3;", 12);
    fault("views 1 < not 2;", 10);
    fault("views 1 + not 2;", 10);
    fault("views - not 2;", 8);
    fault("views +1;", 6);
    fault("views 1 * * 2;", 10);
    fault("views (1;", 8);
    fault("views 1);", 7);
    fault("views ();", 7);
    fault("views (1 2);", 9);
    fault("views 1 not 2;", 8);
    fault("views (", 7);
    fault("views 1 ; warms # 12345", 16);
    fault("views \u00e1;", 6);
    fault("viewswarms", 0);
    due.is("no blank is needed", Due.read(new RoundTheModel(), "views(1)warms;"), -108);
    due.is("no blank is needed", Due.read(new RoundTheModel(), "views(1);warms-1;minds(not 1);"), 1);
  }

  private static void fine(String e) {
    due.is("'" + e + "'", Due.read(new RoundTheModel(), "views " + e + ";warms 0;minds 0;"), 1);
  }

  private static void openOnes() {
    fine("(((((1)))))");
    fault("views ((((((1))))));", 11);
    fine("not not not not not 1");
    fault("views not not not not not not 1;", 26);
    fine("-----1");
    fault("views ------1;", 11);
    fine("1------1");
    fault("views 1-------1;", 13);
    fine("not(-(-1))");
    fault("views not(-(-(1)));", 13);
    fault("views not(-(- -1));", 14);
    fault("views ((((( not 1)))));", 12);
    fine("(((((1)))))+(((((1)))))");
    fine("not not not not not 1 and not not not not not 1");
    fine("-----1*-----1");
    fine("((((-1+-1))))");
    fault("views not not not not not 1 = (2);", 30);
    fine("not not not not 1 = (2)");
    fault("views not not not not (1 = (2));", 27);
  }

  // Promise 7
  private static void force() {
    RoundTheModel x = new RoundTheModel();
    due.is("force -1", x.force(-1), -2);
    due.is("force 1", x.force(1), -2);
    due.is("force 0", x.force(0), 0);
    Due.read(x, "views 50;warms 0;minds 0;");
    Due.read(x, "views 60;warms 0;minds 0;");
    x.painter(0, 0, 0);
    due.is("a TEXT is no RULE yet", x.told(0, 10), 10);
    due.is("force 2", x.force(2), 0);
    due.is("its VIEW", x.told(0, 10), 60);
    due.is("force 1", x.force(1), 2);
    due.is("its VIEW", x.told(0, 10), 50);
    due.is("force 3", x.force(3), -2);
    due.is("RULE", x.count(5), 1);
    due.is("force 0", x.force(0), 1);
    due.is("its VIEW", x.told(0, 10), 10);
  }

  // Promise 8
  private static void pose() {
    RoundTheModel x = new RoundTheModel();
    x.painter(0, 0, 9);
    x.painter(5, 0, 3);
    // painter 0: SIDE 9, views 1, STOVE AWAY 4, warms 1
    due.is("pose(407)", x.pose(407), 3);
    due.is("FACE", x.told(0, 0), 4);
    due.is("EASEL round", x.told(0, 5), 5);
    due.is("EASEL", x.told(1, 5), 10);
    due.is("POSE", x.count(1), 1);
    due.is("HAD", x.told(0, 7), 1 << 9);
    due.is("HAD", x.told(1, 7), 1 << 3);
    due.is("PLEASED", x.told(0, 8), 2);
    due.is("PLEASED", x.told(1, 8), 1);
    due.is("LAMP stays", x.told(0, 1), 0);
    due.is("STOVE stays", x.told(0, 2), 5);
    // painter 0: SIDE 1, views 9, warms 5
    due.is("pose(1010)", x.pose(1010), 15);
    due.is("FACE round", x.told(0, 0), 3);
    due.is("EASEL", x.told(0, 5), 4);
    due.is("HAD", x.told(0, 7), 1 << 9 | 2);
    due.is("PLEASED", x.told(0, 8), 16);
    x.set(0, 0, 0);
    due.is("pose(1000)", x.pose(1000), 6 + 4 + 1);
    due.is("FACE", x.told(0, 0), 10);
    due.is("EASEL", x.told(0, 5), 4);
    x.pose(10);
    due.is("FACE", x.told(0, 0), 10);
    due.is("EASEL", x.told(0, 5), 3);
    int[] wrong = {-1, 11, 99, 111, 1011, 1100, -100, Integer.MIN_VALUE, Integer.MAX_VALUE};
    for (int w : wrong) due.is("pose(" + w + ")", x.pose(w), NOPE);
    x.set(3, 0, 999);
    due.is("pose at 999", x.pose(0), NOPE);
    // 16, and 6 + 4, and 5 + 4
    due.is("nothing changed", x.told(0, 8), 35);
    x.set(3, 0, 998);
    due.is("pose at 998: SIDE 4", x.pose(0), 6 + 3 + 1);
    due.is("POSE", x.count(1), 999);
  }

  private static void pleasedHasABound() {
    RoundTheModel x = ruled("views 99;warms 99;minds 0-99;");
    x.painter(0, 0, 0);
    x.painter(5, 0, 5);
    for (int i = 0; i < 337; i++) x.pose(0);
    due.is("PLEASED has a bound", x.told(0, 8), 99999);
    due.is("PLEASED of the other", x.told(1, 8), 337);
    due.is("WHOLE has none", x.pose(0), 298);
    due.is("by POSES", x.run(2, 0, 10), 594);
    due.is("SUM", x.run(2, 0, 0), 596);
    // below 0 the bound is 506 POSES away, more than an object's 512 calls leave room for behind a text
    x = ruled("views 0;warms 0-99;minds 99;");
    x.painter(0, 0, 0);
    for (int i = 0; i < 470; i++) x.pose(0);
    due.is("PLEASED below 0", x.told(0, 8), -198 * 470);
  }

  // Promise 9
  private static void run() {
    RoundTheModel x = new RoundTheModel();
    x.painter(0, 0, 9);
    x.painter(5, 0, 3);
    x.pose(407);
    // now FACE 4, EASELS 5 and 10; painter 0 is PLEASED by 9 + 5, then at SIDE 7 and EASEL 9 by 3 + 1
    due.is("SUM of none", x.run(0, 0, 0), 0);
    due.is("SUM", x.run(1, 904, 0), 15);
    due.is("SUM", x.run(2, 904, 0), 20);
    due.is("SUM is not what was", x.run(2, 904, 10), 18);
    due.is("LEAST", x.run(2, 904, 1), 2);
    due.is("who is least", x.run(2, 904, 2), 1);
    due.is("of like ones the first", x.run(0, 0, 2), 0);
    due.is("FACE at last", x.run(2, 904, 3), 0);
    due.is("by painter 1", x.run(2, 904, 11), 2);
    due.is("SIDES with what was", x.run(2, 904, 20), 1 << 9 | 1 << 1 | 1 << 7);
    due.is("SIDES behind none", x.run(0, 0, 20), 1 << 9);
    due.is("nothing moved", x.told(0, 5), 5);
    due.is("nothing moved", x.count(1), 1);
    due.is("nothing moved", x.told(0, 7), 1 << 9);
    for (int what : new int[] {-1, 4, 9, 12, 16, 19, 22, 26, 30, Integer.MAX_VALUE, Integer.MIN_VALUE})
      due.is("run what " + what, x.run(1, 0, what), NOPE);
    due.is("run n -1", x.run(-1, 0, 0), NOPE);
    due.is("run n 41", x.run(41, 0, 0), NOPE);
    due.is("run n 40", x.run(40, 0, 11), 40);
    due.is("run turnStep", x.run(1, 1011, 0), NOPE);
    RoundTheModel y = ruled("views pose-999;warms 0;minds 0;");
    y.painter(0, 0, 0);
    y.set(3, 0, 999);
    due.is("POSE may pass 999 in thought", y.run(4, 0, 0), 0 + 1 + 2 + 3);
    RoundTheModel z = new RoundTheModel();
    due.is("nobody: who", z.run(3, 101, 2), -1);
    due.is("nobody: LEAST", z.run(3, 101, 1), 0);
    due.is("nobody: 10", z.run(3, 101, 10), NOPE);
    due.is("nobody: 20", z.run(3, 101, 20), NOPE);
    z.painter(3, 2, 1);
    // LATE of NUMBER 2 at SIDE 1: half of 18 twice, then 18; warms 1 - 2, minds 1
    due.is("LATE in thought", z.run(4, 0, 10), 9 + 9 + 18 + 18 - 8);
  }

  // Promise 10
  private static void ring() {
    RoundTheModel x = new RoundTheModel();
    due.is("nobody: LIGHT", x.change(2), 0);
    due.is("nobody: WHOLE", x.ring(0), 0);
    due.is("nobody: most", x.ring(1), -1);
    due.is("nobody: free", x.ring(2), 2047);
    due.is("nobody: WORST", x.ring(3), -1);
    x.painter(5, 0, 10);
    x.painter(5, 0, 3);
    due.is("WHOLE", x.ring(0), 2);
    due.is("of like ones the first", x.ring(1), 0);
    due.is("free", x.ring(2), 2047 - 1024 - 8);
    due.is("WORST: of like ones the first", x.ring(3), 0);
    x.painter(0, 0, 0);
    // views 10, warms 0, minds 1
    due.is("most", x.ring(1), 2);
    due.is("WHOLE", x.ring(0), 11);
    RoundTheModel y = new RoundTheModel();
    y.painter(0, 0, 9);
    y.painter(0, 0, 10);
    // 9 is not free, 10 neither; 8 would be 2 + 2, and painter 0 is not near itself there
    due.is("WORST", y.ring(3), 8);
    y.set(2, 0, 0);
    // STOVE 0: 8 is 2 + 2; 7 is 3 + 1; 6 is 4 + 0; all else is more
    due.is("WORST: the first of 4", y.ring(3), 6);
    RoundTheModel z = new RoundTheModel();
    z.painter(0, 0, 2);
    due.is("WORST of one: 10, by 0 + 0", z.ring(3), 10);
    due.is("ring(-1)", y.ring(-1), NOPE);
    due.is("ring(4)", y.ring(4), NOPE);
    due.is("nothing moved", y.told(0, 5), 9);
  }

  // Promise 11
  private static void mean() {
    RoundTheModel x = new RoundTheModel();
    due.is("nobody", x.mean(1, 0, 0), NO);
    x.painter(0, 0, 0);
    due.is("10 by 1", x.mean(1, 0, 0), 10);
    // the model turns 10: SIDE 1, 9 + 0; all move 9: SIDE 9, 1 + 1
    due.is("19 by 1", x.mean(2, 1000, 0), 19);
    due.is("12 by 1", x.mean(2, 9, 0), 12);
    x.painter(5, 0, 5);
    x.painter(5, 0, 3);
    due.is("12 by 3, above", x.mean(1, 0, 0), 4);
    due.is("12 by 3, below", x.mean(1, 0, 1), 1);
    x.painter(5, 0, 7);
    due.is("13 by 4, above", x.mean(1, 0, 0), 13);
    due.is("13 by 4, below", x.mean(1, 0, 1), 4);
    due.is("26 by 4, above", x.mean(2, 0, 0), 13);
    due.is("26 by 4, below", x.mean(2, 0, 1), 2);
    due.is("0 by 4, above", x.mean(0, 0, 0), 0);
    due.is("0 by 4, below", x.mean(0, 0, 1), 1);
    due.is("mean of 40", x.mean(40, 0, 0), 130);
    due.is("mean n -1", x.mean(-1, 0, 0), NO);
    due.is("mean n 41", x.mean(41, 0, 0), NO);
    due.is("mean turnStep", x.mean(1, 11, 0), NO);
    due.is("mean part -1", x.mean(1, 0, -1), NO);
    due.is("mean part 2", x.mean(1, 0, 2), NO);
    RoundTheModel y = ruled("views 0;warms 0;minds 3;");
    y.painter(0, 0, 0);
    y.painter(0, 0, 5);
    y.painter(2, 0, 3);
    y.painter(2, 0, 7);
    // -3 each, and 2 each
    due.is("-2 by 4, above", y.mean(1, 0, 0), -1);
    due.is("-2 by 4, below", y.mean(1, 0, 1), 2);
  }

  // Promise 12
  private static void best() {
    RoundTheModel x = new RoundTheModel();
    for (int what = 0; what < 4; what++) due.is("nobody: best " + what, x.best(5, what), 0);
    x.painter(0, 0, 2);
    // 8 + 2 now; by turn and step 3, at the STOVE and SIDE 0: 15 in the second
    due.is("TURN (0)", x.best(0, 0), 0);
    due.is("SUM of 0", x.best(0, 1), 0);
    due.is("TURN (1)", x.best(1, 0), 0);
    due.is("SUM of 1", x.best(1, 1), 10);
    due.is("TURN (2)", x.best(2, 0), 503);
    due.is("SUM of 2", x.best(2, 1), 25);
    due.is("FAIR (2)", x.best(2, 2), 503);
    due.is("LEAST of 2", x.best(2, 3), 25);
    x.painter(5, 0, 10);
    due.is("FAIR: who is PAID stays at 2", x.best(2, 2), 0);
    due.is("LEAST", x.best(2, 3), 2);
    due.is("TURN", x.best(2, 0), 503);
    due.is("SUM", x.best(2, 1), 27);
    due.is("nothing moved", x.count(1), 0);
    due.is("best n 10", x.best(10, 3), 10);
    due.is("best n 11", x.best(11, 0), NOPE);
    due.is("best n -1", x.best(-1, 0), NOPE);
    due.is("best what 4", x.best(1, 4), NOPE);
    due.is("best what -1", x.best(1, -1), NOPE);
  }

  // Promise 13
  private static void seat() {
    RoundTheModel x = new RoundTheModel();
    due.is("nobody", x.seat(0, 0), NOPE);
    x.painter(0, 0, 8);
    // 0: 10 + 0, 1: 9 + 1, and so on to 5: 5 + 5; then less
    due.is("SEAT: the first of like ones", x.seat(0, 0), 0);
    due.is("WHOLE then", x.seat(0, 1), 10);
    x.set(0, 0, 2);
    // 2 and 3 and 4 and 5: 10 + 2, 9 + 3, 8 + 4, 7 + 5
    due.is("SEAT", x.seat(0, 0), 2);
    due.is("WHOLE then", x.seat(0, 1), 12);
    x.painter(0, 0, 2);
    // 2 isn't free, at 3 both mind; at 4: 12, and 12 of the other
    due.is("SEAT", x.seat(0, 0), 4);
    due.is("WHOLE then", x.seat(0, 1), 24);
    due.is("SEAT of the other: one's own", x.seat(1, 0), 2);
    due.is("nothing moved", x.told(0, 5), 8);
    due.is("seat what -1", x.seat(0, -1), NOPE);
    due.is("seat what 2", x.seat(0, 2), NOPE);
    due.is("seat of -1", x.seat(-1, 0), NOPE);
    due.is("seat of 2", x.seat(2, 0), NOPE);
  }

  // Promise 14
  private static void change() {
    RoundTheModel x = new RoundTheModel();
    x.painter(0, 0, 9);
    x.painter(5, 0, 5);
    x.painter(5, 0, 0);
    // painter 0: 1 + 1 now; at 5: 5 + 5; at 0: 10 + 0
    due.is("CHANGE: of like ones the first", x.change(0), 1);
    due.is("WHOLE then", x.change(1), 12);
    x.set(5, 0, 3);
    due.is("CHANGE: none is more", x.change(0), -1);
    due.is("WHOLE as so", x.change(1), 12);
    due.is("LIGHT: of like ones the first", x.change(2), 0);
    due.is("WHOLE then", x.change(3), 12);
    due.is("HEAT", x.change(4), 3);
    due.is("WHOLE then", x.change(5), 14);
    due.is("FRONT", x.change(6), 3);
    due.is("WHOLE then", x.change(7), 15);
    due.is("nothing moved", x.told(0, 0), 0);
    due.is("nothing moved", x.told(0, 1), 0);
    due.is("nothing moved", x.told(0, 2), 5);
    RoundTheModel y = ruled("views 20-2*lamp;warms 0;minds 0;");
    y.painter(0, 0, 7);
    due.is("LIGHT", y.change(2), 7);
    due.is("WHOLE then", y.change(3), 20);
    RoundTheModel z = new RoundTheModel();
    z.painter(5, 0, 1);
    z.painter(5, 0, 2);
    z.painter(0, 0, 9);
    z.painter(5, 0, 5);
    // painter 2: 1 + 1 now; at 1 and at 2 one is near: 9; at 5: 10
    due.is("CHANGE: the lesser first", z.change(0), 23);
    due.is("WHOLE then", z.change(1), 13);
    due.is("nothing moved", z.told(2, 5), 9);
    due.is("change what 8", y.change(8), NOPE);
    due.is("change what -1", y.change(-1), NOPE);
  }

  // Promise 15
  private static void round() {
    RoundTheModel x = new RoundTheModel();
    x.painter(0, 0, 4);
    due.is("ROUND by 1", x.round(0, 100), 11);
    due.is("ROUND by a step of 3", x.round(0, 3), 11);
    due.is("ROUND, both alike", x.round(0, 707), -1);
    for (int i = 0; i < 4; i++) x.pose(1);
    due.is("ROUND with what was HAD", x.round(0, 1), 7);
    due.is("ROUND back: 7 to go behind 1", x.round(0, 10), 11);
    for (int i = 0; i < 6; i++) x.pose(1);
    due.is("ROUND, one to go, here", x.round(0, 0), 1);
    x.pose(1);
    due.is("ROUND, every SIDE was HAD", x.round(0, 0), 0);
    due.is("round of -1", x.round(-1, 0), -2);
    due.is("round of 1", x.round(1, 0), -2);
    due.is("round turnStep", x.round(0, 1100), -2);
    due.is("round turnStep", x.round(0, -1), -2);
    due.is("nothing moved", x.count(1), 11);
  }

  // Promise 16
  private static void tells() {
    RoundTheModel x = new RoundTheModel();
    x.painter(0, 3, 2);
    x.painter(5, 0, 7);
    // painter 0: SIDE 2, 8 + 2; then by 0 turns and 1 step 7 + 3, 6 + 4
    x.sheet(0, 2, 3);
    for (int i = 0; i < 3; i++) x.cell(0, i, 10);
    due.is("tells 0: all are so", x.tells(0, 0, 1, 0), -1);
    x.cell(0, 2, 11);
    due.is("tells 0", x.tells(0, 0, 1, 0), 2);
    due.is("tells 1: none", x.tells(0, 0, 1, 1), 0);
    x.cell(0, 2, 10);
    due.is("KINDS", x.tells(0, 0, 1, 1), 1);
    due.is("NUMBERS", x.tells(0, 0, 1, 2), 1023);
    // from 0 .. 3 one goes on to 5 at most, by 10 each; from 4 to 6, by 4 + 4
    due.is("EASELS", x.tells(0, 0, 1, 3), 0b1111);
    due.is("FACES", x.tells(0, 0, 1, 4), 1);
    due.is("LAMPS", x.tells(0, 0, 1, 5), 2047);
    due.is("tells by a turn of 10: 10, 7 + 2, 6 + 2", x.tells(0, 0, 1000, 0), 1);
    // STOVE AWAY 3 2 1, as it is from 5 alone
    due.is("STOVES", x.tells(0, 0, 1, 6), 1 << 5);
    due.is("TEXTS", x.tells(0, 0, 1, 7), 1);
    Due.read(x, "views 9;warms 1;minds 0;");
    Due.read(x, "views 9;warms 1;minds 1;");
    Due.read(x, "views 0;warms 10;minds 0;");
    due.is("TEXTS", x.tells(0, 0, 1, 7), 0b1011);
    due.is("EASELS with none told", x.sheet(1, 0, 0), 1);
    due.is("EASELS with none told", x.tells(1, 1, 0, 3), 2047 - 4);
    due.is("TEXTS with none told", x.tells(1, 1, 0, 7), 15);
    tellsOfSorts();
    x.sheet(2, 1, 20);
    due.is("tells 20", x.tells(2, 0, 0, 0), 0);
    x.sheet(2, 1, 21);
    due.is("tells 21", x.tells(2, 0, 0, 0), -2);
    due.is("tells sheet -1", x.tells(-1, 0, 0, 0), -2);
    due.is("tells sheet 4", x.tells(4, 0, 0, 0), -2);
    due.is("tells missing", x.tells(3, 0, 0, 0), -11);
    due.is("tells missing, painter 2", x.tells(3, 2, 0, 0), -2);
    due.is("tells missing, turnStep", x.tells(3, 0, 11, 0), -2);
    due.is("tells missing, what", x.tells(3, 0, 0, 8), -2);
    due.is("tells what -1", x.tells(0, 0, 0, -1), -2);
    due.is("tells of -1", x.tells(0, -1, 0, 0), -2);
    due.is("nothing moved", x.told(0, 5), 2);
    due.is("nothing moved", x.told(0, 6), 0);
    due.is("nothing moved", x.count(5), 0);
  }

  private static void tellsOfSorts() {
    RoundTheModel y = ruled("views 0;warms 0-5;minds 0;");
    y.painter(0, 0, 0);
    y.sheet(0, 0, 1);
    y.cell(0, 0, -5);
    due.is("a byte below 0", y.tells(0, 0, 0, 0), -1);
    y.cell(0, 0, 251);
    due.is("251 is the byte -5", y.tells(0, 0, 0, 0), -1);
    y.sheet(0, 1, 1);
    y.cell(0, 0, 65531);
    due.is("65531 is the short -5", y.tells(0, 0, 0, 0), -1);
    y.cell(0, 0, 251);
    due.is("251 is a short", y.tells(0, 0, 0, 0), 0);
    y.sheet(0, 2, 1);
    y.cell(0, 0, 65531);
    due.is("65531 is an int", y.tells(0, 0, 0, 0), 0);
    y = ruled("views lamp;warms 0;minds 0;");
    y.painter(0, 0, 4);
    y.sheet(0, 2, 2);
    y.cell(0, 0, 3);
    y.cell(0, 1, 4);
    // 3 away, then one EASEL on 4 away
    due.is("LAMPS", y.tells(0, 0, 1, 5), 1 << 1);
    due.is("EASELS", y.tells(0, 0, 1, 3), 1 << 3);
    due.is("TEXTS", y.tells(0, 0, 1, 7), 0);
    RoundTheModel z = new RoundTheModel();
    z.painter(1, 0, 1);
    z.painter(3, 4, 6);
    // LATE of NUMBER 4 at SIDE 6: half of 4, 4 - 4, less 1
    z.sheet(0, 2, 2);
    z.cell(0, 0, 1);
    z.cell(0, 1, 1);
    due.is("NUMBERS of LATE", z.tells(0, 1, 0, 2), 1 << 4);
    due.is("LATE alone", z.tells(0, 1, 0, 1) & 1 << 3, 1 << 3);
  }

  // Promise 17
  private static void film() {
    RoundTheModel x = new RoundTheModel();
    x.painter(0, 3, 9);
    due.is("film", x.film(1, 0, 2, 4), 4);
    due.is("all are so", x.tells(1, 0, 2, 0), -1);
    due.is("it is of 4", x.cell(1, 4, 0), -12);
    // 9: 1 + 1; 0: 10 + 0; 2: 8 + 2; 4: 6 + 4
    x.sheet(2, 1, 4);
    due.is("it is of shorts", x.copy(1, 0, 2, 0, 4), 4);
    int[] want = {2, 10, 10, 10};
    x.sheet(3, 2, 4);
    for (int i = 0; i < 4; i++) x.cell(3, i, want[i]);
    due.is("as by hand", x.tells(3, 0, 2, 0), -1);
    x.film(1, 0, 1010, 3);
    // both by 10: SIDE 9 all the time; 9: 1 + 1; 8: 1 + 2; 7: 1 + 3
    want = new int[] {2, 3, 4};
    x.sheet(3, 2, 3);
    for (int i = 0; i < 3; i++) x.cell(3, i, want[i]);
    due.is("by 10 and 10", x.tells(3, 0, 1010, 0), -1);
    x.sheet(2, 1, 4);
    x.copy(1, 0, 2, 0, 3);
    due.is("by 10 and 10, filmed", x.tells(2, 0, 1010, 0), 3);
    due.is("nothing moved", x.told(0, 5), 9);
    due.is("nothing moved", x.count(1), 0);
    due.is("not PLEASED", x.told(0, 8), 0);
    due.is("nothing HAD", x.told(0, 7), 0);
    due.is("film 20", x.film(0, 0, 0, 20), 20);
    due.is("film 21", x.film(0, 0, 0, 21), -2);
    due.is("film -1", x.film(0, 0, 0, -1), -2);
    due.is("film sheet -1", x.film(-1, 0, 0, 1), -2);
    due.is("film sheet 4", x.film(4, 0, 0, 1), -2);
    due.is("film of 1", x.film(0, 1, 0, 1), -2);
    due.is("film of -1", x.film(0, -1, 0, 1), -2);
    due.is("film turnStep", x.film(0, 0, 11, 1), -2);
    due.is("the sheet stays", x.cell(0, 19, 0), 1);
    due.is("film 0", x.film(0, 0, 0, 0), 0);
    due.is("a row of none", x.cell(0, 0, 0), -12);
    due.is("not missing", x.tells(0, 0, 0, 0), -1);
  }

  // Promise 18
  private static void drawn() {
    RoundTheModel x = new RoundTheModel();
    x.painter(0, 0, 0);
    x.set(0, 0, 4);
    // SIDE 7: 3 + 0. SEED 0: z is 12345, 12345 >>> 9 is 24, the turn 2: SIDE 5
    due.is("drawn of none", x.drawn(0, 0), 0);
    due.is("drawn of 1", x.drawn(0, 1), 3);
    due.is("drawn of 2", x.drawn(0, 2), 3 + 5);
    // then z is 3554416254, >>> 9 is 6942219, the turn 9: FACE 4, SIDE 7
    due.is("drawn of 3", x.drawn(0, 3), 3 + 5 + 3);
    // SEED 1: z is 1103527590, >>> 9 is 2155327, % 11 is 9: FACE 2, SIDE 9
    due.is("drawn of 2, SEED 1", x.drawn(1, 2), 3 + 1);
    // SEED -1: z is -1103502900 or 3191464396, >>> 9 is 6233328, % 11 is 2: FACE 6, SIDE 5
    due.is("drawn of 2, SEED -1", x.drawn(-1, 2), 3 + 5);
    due.is("drawn n -1", x.drawn(0, -1), NOPE);
    due.is("drawn n 41", x.drawn(0, 41), NOPE);
    x.set(2, 0, 0);
    x.painter(5, 0, 3);
    due.is("drawn of 1", x.drawn(0, 1), 9);
    due.is("nothing moved", x.told(0, 0), 4);
    RoundTheModel y = ruled("views pose;warms 0;minds 0;");
    y.painter(0, 0, 0);
    due.is("drawn of 40 tells POSE", y.drawn(7, 40), 780);
  }

  // Promise 19
  private static void chance() {
    RoundTheModel x = new RoundTheModel();
    x.painter(0, 0, 0);
    int many = 0;
    for (int i = 0; i < 20; i++) if (x.drawn(500 + i, 6) >= 30) many++;
    due.is("some of them", many > 0 && many < 20 ? 1 : 0, 1);
    long above = x.chance(500, 20, 30, 0), below = x.chance(500, 20, 30, 1);
    due.is("as many as were drawn", above * 20, many * below);
    for (int d = 2; d <= 20; d++) due.is("in lowest terms", above % d == 0 && below % d == 0 ? 1 : 0, 0);
    int sum = x.drawn(9, 6);
    due.is("k is just SUM", x.chance(9, 1, sum, 0), 1);
    due.is("k is more", x.chance(9, 1, sum + 1, 0), 0);
    due.is("all, above", x.chance(9, 20, -99999, 0), 1);
    due.is("all, below", x.chance(9, 20, -99999, 1), 1);
    due.is("none, above", x.chance(9, 20, 99999, 0), 0);
    due.is("none, below", x.chance(9, 20, 99999, 1), 1);
    int last = x.drawn(Integer.MAX_VALUE, 6), first = x.drawn(Integer.MIN_VALUE, 6);
    int low = Math.min(last, first);
    due.is("SEEDS go on as ints do", x.chance(Integer.MAX_VALUE, 2, low, 0), 1);
    if (last != first) due.is("one of two", x.chance(Integer.MAX_VALUE, 2, low + 1, 1), 2);
    due.is("chance m 0", x.chance(0, 0, 0, 0), NO);
    due.is("chance m 21", x.chance(0, 21, 0, 0), NO);
    due.is("chance k", x.chance(0, 1, 100000, 0), NO);
    due.is("chance k", x.chance(0, 1, -100000, 0), NO);
    due.is("chance part 2", x.chance(0, 1, 0, 2), NO);
    due.is("chance part -1", x.chance(0, 1, 0, -1), NO);
  }

  // Promises 20, 21
  private static void imageAndBack() {
    RoundTheModel x = new RoundTheModel();
    due.is("back without an image", x.back(), -3);
    due.is("image of nobody", x.image(), 0);
    x.painter(2, 4, 6);
    x.painter(1, 5, 1);
    due.is("back to nobody", x.back(), 0);
    due.is("nobody", x.count(0), 0);
    x.painter(0, 0, 0);
    x.pose(1);
    due.is("back to nobody", x.back(), 0);
    due.is("the EASEL is free", x.painter(3, 7, 6), 0);
    due.is("who comes anew has HAD nothing", x.told(0, 7), 0);
    due.is("who comes anew is not PLEASED yet", x.told(0, 8), 0);
    Due.read(x, "views 50;warms 0;minds 0;");
    x.set(0, 0, 3);
    x.set(1, 0, 2);
    x.set(2, 0, 1);
    x.set(3, 0, 44);
    x.pose(102);
    x.force(1);
    int[] was = new int[15];
    for (int i = 0; i < 15; i++) was[i] = x.told(0, i);
    due.is("image", x.image(), 1);
    for (int times = 0; times < 2; times++) {
      x.pose(903);
      x.set(1, 0, 9);
      x.set(2, 0, 8);
      x.set(4, 0, 1);
      x.force(0);
      due.is("one more", x.painter(4, 3, 7), 1);
      due.is("back", x.back(), 1);
      for (int i = 0; i < 15; i++) due.is("as it was: " + i, x.told(0, i), was[i]);
      due.is("RULE", x.count(5), 1);
      due.is("who came since is gone", x.told(1, 4), NOPE);
    }
    x.feed(118);
    x.sheet(0, 0, 3);
    x.back();
    due.is("THE TAPE is not kept", x.count(4), 1);
    due.is("TEXTS stay", x.count(3), 2);
    due.is("SHEETS stay", x.cell(0, 2, 1), 1);
    x.painter(0, 0, 7);
    x.pose(0);
    due.is("image anew", x.image(), 2);
    x.pose(0);
    due.is("back to the new one", x.back(), 2);
    due.is("POSE", x.count(1), 46);
  }

  // Promise 22
  private static void count() {
    RoundTheModel x = new RoundTheModel();
    x.painter(0, 0, 1);
    x.painter(0, 0, 2);
    x.pose(0);
    x.pose(0);
    x.pose(0);
    Due.read(x, "views 1;warms 1;minds 1;");
    x.force(1);
    x.feed(1);
    x.feed(2);
    x.feed(3);
    x.feed(4);
    int[] want = {2, 3, 9, 2, 4, 1};
    for (int i = 0; i < 6; i++) due.is("count(" + i + ")", x.count(i), want[i]);
    due.is("count(-1)", x.count(-1), -2);
    due.is("count(6)", x.count(6), -2);
  }

  // Promise 23
  private static void sheet() {
    RoundTheModel x = new RoundTheModel();
    due.is("sheet 40", x.sheet(0, 0, 40), 1);
    due.is("item 39", x.cell(0, 39, 7), 1);
    due.is("sheet 41", x.sheet(0, 0, 41), -2);
    due.is("sheet below 0", x.sheet(0, 0, -1), -14);
    due.is("the sheet stays", x.cell(0, 39, 7), 1);
    due.is("sheet sort 3, size below 0", x.sheet(0, 3, -1), -2);
    due.is("sheet sort -2", x.sheet(0, -2, 1), -2);
    due.is("sheet -1", x.sheet(-1, 0, -1), -2);
    due.is("sheet 4", x.sheet(4, 0, 1), -2);
    due.is("sheet 4 missing", x.sheet(4, -1, 1), -2);
    due.is("missing, whatever n", x.sheet(0, -1, -9), 1);
    due.is("it is missing", x.cell(0, 0, 0), -11);
    due.is("missing, whatever n", x.sheet(0, -1, 99), 1);
    x.painter(5, 0, 0);
    x.sheet(3, 2, 1);
    x.cell(3, 0, 1);
    due.is("as told", x.tells(3, 0, 0, 0), -1);
    due.is("anew", x.sheet(3, 2, 1), 1);
    due.is("all 0", x.tells(3, 0, 0, 0), 0);
    due.is("a row of none", x.sheet(3, 1, 0), 1);
    due.is("a row of none", x.cell(3, 0, 0), -12);
  }

  // Promise 24
  private static void cell() {
    RoundTheModel x = new RoundTheModel();
    x.painter(5, 0, 0);
    for (int sort = 0; sort < 3; sort++) {
      x.sheet(sort, sort, 2);
      due.is("cell", x.cell(sort, 0, 1), 1);
      due.is("cell", x.cell(sort, 1, 1 + 65536), 1);
      due.is("its lowest bits", x.tells(sort, 0, 0, 0), sort < 2 ? -1 : 1);
      x.cell(sort, 1, 1 + 256);
      due.is("its lowest bits", x.tells(sort, 0, 0, 0), sort < 1 ? -1 : 1);
      due.is("cell -1", x.cell(sort, -1, 1), -12);
      due.is("cell 2", x.cell(sort, 2, 1), -12);
      due.is("cell far", x.cell(sort, Integer.MAX_VALUE, 1), -12);
    }
    due.is("cell missing", x.cell(3, -1, 1), -11);
    due.is("cell of 4", x.cell(4, 0, 1), -2);
    due.is("cell of -1", x.cell(-1, 0, 1), -2);
  }

  // Promise 25
  private static void copy() {
    RoundTheModel x = new RoundTheModel();
    x.painter(0, 0, 9);
    x.film(0, 0, 2, 4); // 2 10 10 10
    x.sheet(1, 1, 6);
    due.is("copy", x.copy(0, 0, 1, 2, 4), 4);
    due.is("copy to the front", x.copy(1, 2, 1, 0, 4), 4);
    due.is("as they were, one way", x.tells(1, 0, 2, 0), 4);
    x.sheet(1, 1, 5);
    x.copy(0, 0, 1, 0, 3);
    due.is("copy over itself", x.copy(1, 0, 1, 1, 3), 3);
    // 2 2 10 10 0
    x.sheet(2, 1, 4);
    due.is("copy", x.copy(1, 1, 2, 0, 3), 3);
    due.is("as they were, the other way", x.tells(2, 0, 2, 0), 3);
    due.is("copy none at the end", x.copy(0, 4, 1, 5, 0), 0);
    due.is("copy below 0", x.copy(0, 0, 1, 0, -1), -12);
    due.is("copy from -1", x.copy(0, -1, 1, 0, 1), -12);
    due.is("copy to -1", x.copy(0, 0, 1, -1, 1), -12);
    due.is("copy too much", x.copy(0, 1, 1, 0, 4), -12);
    due.is("copy too far", x.copy(0, 0, 1, 3, 3), -12);
    due.is("copy none behind the end", x.copy(0, 5, 1, 0, 0), -12);
    due.is("copy, sums that wrap", x.copy(0, Integer.MAX_VALUE, 1, 0, Integer.MAX_VALUE), -12);
    due.is("copy, sums that wrap", x.copy(0, 1, 1, 1, Integer.MAX_VALUE), -12);
    due.is("copy missing", x.copy(3, 0, 1, 0, -1), -11);
    due.is("copy to missing", x.copy(1, 0, 3, 0, 1), -11);
    due.is("copy missing to itself", x.copy(3, 0, 3, 0, 0), -11);
    x.sheet(3, 2, 4);
    due.is("copy of unlike sorts", x.copy(0, 0, 3, 0, -1), -13);
    due.is("copy of 4", x.copy(4, 0, 0, 0, 0), -2);
    due.is("copy to 4", x.copy(0, 0, 4, 0, 0), -2);
    due.is("copy of -1", x.copy(-1, 0, 3, 0, 0), -2);
    due.is("copy to -1", x.copy(3, 0, -1, 0, 0), -2);
  }

  private static void fill(RoundTheModel x, int sheet, int sort, int... row) {
    x.sheet(sheet, sort, row.length);
    for (int i = 0; i < row.length; i++) x.cell(sheet, i, row[i]);
  }

  // Promise 26
  private static void painters() {
    RoundTheModel x = new RoundTheModel();
    fill(x, 0, 0, 7, 1, 2, 3, 1, 2, 3, 2, 5, 10, 0);
    due.is("from item 1 on", x.painters(0, 0, 1, 3), 2);
    due.is("KIND", x.told(0, 6), 1);
    due.is("NUMBER", x.told(0, 4), 2);
    due.is("EASEL", x.told(0, 5), 3);
    due.is("KIND", x.told(1, 6), 2);
    due.is("EASEL", x.told(1, 5), 10);
    due.is("none of them", x.painters(0, 0, 1, 0), 0);
    due.is("painters sort", x.painters(0, 1, 1, 1), -13);
    due.is("painters sort 3", x.painters(0, 3, 1, 1), -2);
    due.is("painters sort -1", x.painters(0, -1, 1, 1), -2);
    due.is("painters missing", x.painters(1, 0, 1, 1), -11);
    due.is("painters missing, none", x.painters(1, 2, 0, 0), -11);
    due.is("painters n 7", x.painters(0, 0, 1, 7), -2);
    due.is("painters n -1", x.painters(0, 0, 1, -1), -2);
    due.is("painters of 4", x.painters(4, 0, 1, 1), -2);
    due.is("painters of -1", x.painters(-1, 0, 1, 1), -2);
    due.is("from -1", x.painters(0, 0, -1, 1), -12);
    due.is("from far", x.painters(0, 0, Integer.MAX_VALUE, 6), -12);
    due.is("from behind", x.painters(0, 0, 9, 1), -12);
    due.is("two", x.count(0), 2);
    fill(x, 2, 2, 0, 0, 0, 0, 0, 1, 0, 0);
    due.is("the third is not whole", x.painters(2, 2, 0, 3), -12);
    due.is("what stood ahead came", x.count(0), 4);
    fill(x, 3, 1, 0, 0, 4, 0, 0, 5, 0, 0, 6, 0, 0, 7);
    due.is("two have room", x.painters(3, 1, 0, 4), 2);
    due.is("six", x.count(0), 6);
  }

  // Promise 27
  private static void taken() {
    RoundTheModel x = new RoundTheModel();
    for (int kind = 0; kind < 6; kind++) x.painter(kind, kind + 3, kind);
    int[] under = {0b000001, 0b000011, 0b000101, 0b001011, 0b010101, 0b100001};
    for (int kind = 0; kind < 6; kind++)
      for (int k = 0; k < 6; k++)
        due.is("taken(" + kind + ", " + k + ")", x.taken(kind, k), (under[kind] >> k & 1) == 1 ? kind + 3 : -13);
    due.is("taken k -1", x.taken(9, -1), -2);
    due.is("taken k 6", x.taken(0, 6), -2);
    due.is("taken of 6", x.taken(6, 0), -11);
    due.is("taken of -1", x.taken(-1, 5), -11);
  }
}
