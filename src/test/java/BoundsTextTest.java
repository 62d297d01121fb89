/** Promises 5 to 7: feed, text, force. */
public final class BoundsTextTest extends Bounds {
  public static void main(String[] args) throws Exception { runAll(BoundsTextTest.class, 5, 7); }

  private static final String SHORT = "views 0;warms 0;minds 0;";

  /** A tape of 160 bytes. */
  private static void fullTape(RoundTheModel x) {
    seatPaid(x, 0);
    for (int i = 0; i < 160; i++) x.feed(32);
  }

  /** Six TEXTS, and a whole one on the tape. */
  private static void fullTexts(RoundTheModel x) {
    seatPaid(x, 0, 3);
    x.painter(0, 4, 5);
    for (int i = 1; i < 6; i++) Due.read(x, "views " + i + ";warms 0;minds 0;");
    x.force(3);
    feed(x, "views 6;warms 7;mi");
  }

  // ---- 5: feed

  static void p05_letterIs0To255() {
    RoundTheModel x = new RoundTheModel();
    is("feed(0)", x.feed(0), 1);
    is("feed(255)", x.feed(255), 2);
    is("feed(1)", x.feed(1), 3);
    is("feed(254)", x.feed(254), 4);
    unfeltOf("feed", Bounds::studio, (y, letter) -> y.feed(letter), BAD, -1, 256, MIN, MAX);
    unfeltOf("feed as the first", y -> seatPaid(y, 0), (y, letter) -> y.feed(letter), BAD, -1, 256);
  }

  static void p05_notByItsLowest8Bits() {
    RoundTheModel x = new RoundTheModel();
    feed(x, "views 0;warms 0;minds 0");
    is("';' and 256", x.feed(';' + 256), BAD);
    is("';' less 256", x.feed(';' - 256), BAD);
    is("the text lacks its end", x.text(), -123);
  }

  static void p05_160AtMost() {
    RoundTheModel x = new RoundTheModel();
    for (int i = 1; i <= 160; i++) is("byte " + i, x.feed(32), i);
    is("byte 161", x.feed(32), FULL);
    is("bytes", x.count(4), 160);
    unfeltOf("feed", BoundsTextTest::fullTape, (y, letter) -> y.feed(letter), FULL, 0, 32, 255);
  }

  static void p05_badIsAheadOfFull() {
    unfeltOf("feed", BoundsTextTest::fullTape, (y, letter) -> y.feed(letter), BAD, -1, 256, MIN, MAX);
  }

  static void p05_roomAgainBehindAText() {
    RoundTheModel x = new RoundTheModel();
    fullTape(x);
    is("text of blanks", x.text(), -260);
    is("feed", x.feed(32), 1);
  }

  static void p05_theLastByteCounts() {
    RoundTheModel x = new RoundTheModel();
    feed(x, " ".repeat(136) + SHORT);
    is("bytes", x.count(4), 160);
    is("text", x.text(), 1);
    feed(x, " ".repeat(137) + SHORT);
    is("bytes", x.count(4), 160);
    is("text whose ; has no room", x.text(), -260);
  }

  // ---- 6: text

  private static int read(String text) { return Due.read(new RoundTheModel(), text); }

  private static void fault(String text, int place) { is("'" + text + "'", read(text), -100 - place); }

  private static void fine(String e) { is("'" + e + "'", read("views " + e + ";warms 0;minds 0;"), 1); }

  /** What an E tells one at SIDE 3, 2 from the LAMP, 1 from the STOVE, NUMBER 9, POSE 4, with one NEAR. */
  private static void tells(String e, int want) {
    RoundTheModel x = ruled("views 0;warms " + e + ";minds 0;");
    x.painter(0, 9, 4);
    x.painter(5, 0, 5);
    x.set(0, 0, 1);
    x.set(1, 0, 2);
    x.set(3, 0, 4);
    is(e, x.told(0, 11), want);
  }

  static void p06_nothingOnTheTape() {
    fault("", 0);
    fault(" ", 1);
    fault("\n", 1);
    fault(" ".repeat(160), 160);
  }

  static void p06_blanksMayStandBetween() {
    is("none", read("views(0);warms(0);minds(0);"), 1);
    is("none by a NUMBER", read("views0;warms0;minds0;"), 1);
    is("many", read(" \n views \n 0 \n ; \n warms 0 ; minds 0 ; \n "), 1);
    fault("views side side;", 11);
    fault("views sideside;", 6);
    fault("views 1 2;", 8);
    fault("views notside;", 6);
    is("between a word and a number", read("views not1;warms side*2;minds 0;"), 1);
  }

  static void p06_whichBytesBegin() {
    for (int b = 0; b < 256; b++) {
      char c = (char) b;
      boolean opens = c == '(' || c == '-' || c == ' ' || c == '\n';
      boolean digit = c >= '0' && c <= '9';
      is("views byte " + b, read("views " + c + ";warms 0;minds 0;"), digit ? 1 : opens ? -107 : -106);
    }
  }

  static void p06_whichBytesGoOn() {
    for (int b = 0; b < 256; b++) {
      char c = (char) b;
      boolean fine = c == ' ' || c == '\n' || c >= '0' && c <= '9';
      boolean sign = "+-*<=;".indexOf(c) >= 0;
      is("views 1 byte " + b, read("views 1" + c + ";warms 0;minds 0;"), fine ? 1 : sign ? -108 : -107);
    }
  }

  static void p06_wordsAreAToZ() {
    for (String edge : new String[] {"`", "{", "A", "Z", "@", "["}) {
      fault("views side" + edge + ";", 10);
      fault("views " + edge + "side;", 6);
    }
    fault("views a;", 6);
    fault("views z;", 6);
    fault("views sidea;", 6);
    fault("views sidez;", 6);
    fault("views zside;", 6);
    fault("views " + "z".repeat(154), 6);
  }

  static void p06_numbersAreDigits() {
    fault("views 1/;", 7);
    fault("views 1:;", 7);
    fault("views /1;", 6);
    fault("views :1;", 6);
    tells("0", 0);
    tells("9", 9);
  }

  static void p06_numbersHave4DigitsAtMost() {
    for (String number : new String[] {"0", "00", "000", "0000", "9", "99", "999", "9999"}) fine(number);
    for (String number : new String[] {"00000", "10000", "12345", "99999", "000000", "9".repeat(154)}) fault("views " + number + ";", 6);
    tells("9999-9990", 9);
    tells("1000-991", 9);
    tells("0001", 1);
    tells("0010", 10);
    fault("views 1234 5;", 11);
    fault("views 1+12345;", 8);
  }

  static void p06_namesAndNothingLike() {
    String[] names = {"side", "lamp", "stove", "number", "pose", "near"};
    int[] want = {3, 2, 1, 9, 4, 1};
    for (int i = 0; i < 6; i++) {
      tells(names[i], want[i]);
      fault("views " + names[i].substring(1) + ";", 6);
      fault("views " + names[i].substring(0, names[i].length() - 1) + ";", 6);
      fault("views " + names[i] + "s;", 6);
      fault("views s" + names[i] + ";", 6);
      fault("views " + names[i].toUpperCase() + ";", 6);
      fault(names[i], 0);
    }
  }

  static void p06_keysAreNoNames() {
    for (String key : new String[] {"views", "warms", "minds", "or", "and"}) {
      fault("views " + key + ";", 6);
      fault("views 1+" + key + ";", 8);
      fault("views (" + key + ");", 7);
    }
    fault("views not;", 9);
    fault("views 1+not 1;", 8);
    fault("views 1<not 1;", 8);
    fault("views -not 1;", 7);
  }

  static void p06_theThreePartsInTheirOrder() {
    fault("warms 0;", 0);
    fault("minds 0;", 0);
    fault("views 0;views 0;", 8);
    fault("views 0;minds 0;", 8);
    fault("views 0;warms 0;warms 0;", 16);
    fault("views 0;warms 0;views 0;", 16);
    fault("view 0;", 0);
    fault("viewss 0;", 0);
    fault("views 0;warm 0;", 8);
    fault("views 0;warms 0;mind 0;", 16);
  }

  static void p06_nothingBehindTheEnd() {
    is("blanks", read(SHORT + " \n"), 1);
    for (String more : new String[] {";", "0", "views", "side", ")", "#", "or", "zz", "12345", "-"}) {
      fault(SHORT + more, 24);
      fault(SHORT + " " + more, 25);
    }
  }

  /** Each beginning of TEXT 0 that ends with a whole token lacks the next one, at its own size. */
  static void p06_endsTooEarly() {
    String rule = "views 10 - side ; warms 5 - stove ; minds near ;";
    for (int size : new int[] {0, 5, 6, 8, 9, 10, 11, 15, 16, 17, 18, 23, 25, 27, 33, 35, 41, 42, 46, 47})
      fault(rule.substring(0, size), size);
    is("whole", read(rule), 1);
    fault(rule.substring(0, 4), 0);
    fault(rule.substring(0, 12), 11);
    fault(rule.substring(0, 45), 42);
    for (String open : new String[] {"views (", "views -", "views not", "views 1<", "views 1=", "views 1+", "views 1*", "views 1 or", "views 1 and", "views (1"})
      fault(open, open.length());
  }

  static void p06_aFullTapeThatEndsTooEarly() {
    fault("views 1" + "+1".repeat(76) + " ", 160);
    fault("views 1" + " ".repeat(153), 160);
  }

  static void p06_theLastTokenOfAFullTape() {
    for (String token : new String[] {"v", "vi", "view", "o", "or", "near", "1", "12345", "(", "#"})
      fault(" ".repeat(160 - token.length()) + token, 160 - token.length());
    fault(" ".repeat(155) + "views", 160);
    for (String token : new String[] {"n", "nea", "nears", "or", "views", "12345", "+", ")", "#"})
      fault("views 1+" + " ".repeat(152 - token.length()) + token, 160 - token.length());
    for (String token : new String[] {"near", "number", "1", "1234", "(", "-"})
      fault("views 1+" + " ".repeat(152 - token.length()) + token, 160);
  }

  static void p06_theFirstTokenThatCannotStand() {
    fault("views 1 # 12345", 8);
    fault("views 12345 #", 6);
    fault("views ) 12345", 6);
    fault("# views", 0);
    fault("  # views", 2);
    fault("views 1;\nwarms\n2 2;", 17);
  }

  static void p06_oneComparisonAtMost() {
    fine("1<2");
    fine("1=2");
    fine("(1<2)<3");
    fine("1<2 and 2<3");
    fault("views 1<2<3;", 9);
    fault("views 1<2=3;", 9);
    fault("views 1=2<3;", 9);
    fault("views 1=2=3;", 9);
    fault("views not 1<2<3;", 13);
    fault("views <1;", 6);
    fault("views 1<;", 8);
  }

  static void p06_fiveOpenBrackets() {
    fine("((((1))))");
    fine("(((((1)))))");
    fault("views ((((((1))))));", 11);
    fault("views (((((((1)))))));", 11);
    fine("(((((1)))))*(((((1)))))");
    fault("views (((((1)))))*((((((1))))));", 23);
    fault("views (((((1))));", 16);
    fault("views (((((1))))));", 17);
  }

  static void p06_fiveOpenNots() {
    fine("not not not not 1");
    fine("not not not not not 1");
    fault("views not not not not not not 1;", 26);
    fine("not not not not not 1 and not not not not not 1 or not not not not not 1");
    fault("views 1 and not not not not not not 1;", 32);
  }

  static void p06_fiveOpenMinuses() {
    fine("----1");
    fine("-----1");
    fault("views ------1;", 11);
    fine("-----1*-----1");
    fine("1------1");
    fault("views 1-------1;", 13);
    fine("-----1------1");
  }

  static void p06_fiveOpenOfAnySort() {
    fine("not(-(-1))");
    fault("views not(-(-(1)));", 13);
    fault("views not(-(--1));", 13);
    fine("(not(-(1)))");
    fault("views (not(-((1))));", 13);
    fault("views (((((not 1)))));", 11);
    fault("views (((((-1)))));", 11);
    fault("views -----(1);", 11);
    fault("views not not not not not -1;", 26);
    fault("views not not not not not (1);", 26);
  }

  static void p06_closedOnesCountNoMore() {
    fine("((((-1+-1))))");
    fine("((((-1*(1)+(1)))))");
    fine("(((((1)+1)+1)+1)+1)+(((((1)))))");
    fine("not not not not not 1 or (1)");
    fine("not not not not (1)=(2)");
    fault("views not not not not not 1=(2);", 28);
    fault("views not not not not not 1*-2;", 28);
    fine("----(1)*(1)");
    fault("views ----((1))*(1);", 11);
    fine("-----1+(1)");
    fine("-----1*(1)");
  }

  static void p06_aFaultThatAlsoGoesTooDeep() {
    fault("views (((((# ((1;", 11);
    fault("views (((((1 (;", 13);
    fault("views ((((((#", 11);
  }

  static void p06_theLongestAndTheDeepest() {
    fine("not(0 or not(0 or not 1))");
    fault("views not(0 or not(0 or not(1)));", 27);
    fine("(0 or 1 and 0<1+2*(0 or 1 and 0<1+2*(0 or 1 and 0<1+2*(0 or 1 and 0<1+2*(0 or 1 and 0<1+2*3)))))");
    fine("1" + "+1".repeat(67));
    fine("1" + "*1".repeat(67));
    fine("1" + "<1 or 1".repeat(19));
    is("160 bytes", read("views 1" + "+1".repeat(67) + " ;warms 0;minds 0; "), 1);
  }

  static void p06_anEIsAnIntThatWraps() {
    String big = "(8192*4096*8*8-1+8192*4096*8*8-0)";
    // 8192 * 4096 * 64 is 2147483648, which is -2147483648: twice that is 0, less 1
    tells(big, -1);
    String top = "(8192*4096*64-1)";
    tells("0<" + top, 1);
    tells("0<" + top + "+1", 0);
    tells(top + "+1<0", 1);
    tells(top + "+1=-" + top + "-1", 1);
    tells("-(" + top + "+1)=" + top + "+1", 1);
    tells(top + "+1-1=" + top, 1);
    tells("8192*8192*64", 0);
    tells("9999*9999*9999*9999<0", (int) (9999L * 9999 * 9999 * 9999) < 0 ? 1 : 0);
    tells(top + "*" + top, 1);
    tells("-99*(0<" + top + "*2)", 0);
  }

  static void p06_whatIsNot0IsTrue() {
    String[] one = {"1", "-1", "2", "9999", "8192*4096*64"};
    for (String t : one) {
      tells("not " + t, 0);
      tells("0 or " + t, 1);
      tells(t + " or 0", 1);
      tells(t + " and 1", 1);
      tells("1 and " + t, 1);
      tells(t + " and 0", 0);
    }
    tells("not 0", 1);
    tells("not (1-1)", 1);
    tells("0 or 0", 0);
    tells("0 and 1", 0);
    tells("8192*8192*64 or 0", 0);
  }

  static void p06_lessAndLike() {
    tells("1<2", 1);
    tells("2<2", 0);
    tells("3<2", 0);
    tells("1=2", 0);
    tells("2=2", 1);
    tells("3=2", 0);
    tells("-1<0", 1);
    tells("0<-1", 0);
  }

  static void p06_sixTextsWithTextZero() {
    RoundTheModel x = new RoundTheModel();
    for (int i = 1; i < 6; i++) {
      is("text " + i, Due.read(x, SHORT), i);
      is("TEXTS", x.count(3), i + 1);
    }
    is("text 6", Due.read(x, SHORT), FULL);
    is("TEXTS", x.count(3), 6);
  }

  static void p06_fullLeavesTheTape() {
    unfelt("text()", y -> { fullTexts(y); feed(y, "nds 0;"); }, RoundTheModel::text, FULL);
    unfelt("text() of half a text", BoundsTextTest::fullTexts, RoundTheModel::text, FULL);
    unfelt("text() of nothing", y -> { for (int i = 0; i < 5; i++) Due.read(y, SHORT); }, RoundTheModel::text, FULL);
    RoundTheModel x = new RoundTheModel();
    fullTexts(x);
    is("text()", x.text(), FULL);
    is("bytes", x.count(4), 18);
    is("it goes on", x.feed(32), 19);
  }

  static void p06_theTapeIsEmptyThen() {
    RoundTheModel x = new RoundTheModel();
    is("text", Due.read(x, SHORT), 1);
    is("bytes", x.count(4), 0);
    is("text of nothing", x.text(), -100);
    is("text with a fault", Due.read(x, "views #"), -106);
    is("bytes", x.count(4), 0);
    is("text of nothing", x.text(), -100);
  }

  static void p06_aFaultTakesNoRoom() {
    RoundTheModel x = new RoundTheModel();
    for (int i = 1; i < 6; i++) {
      is("a fault", Due.read(x, "views"), -105);
      is("TEXTS", x.count(3), i);
      is("text", Due.read(x, SHORT), i);
    }
  }

  static void p06_aTextLeavesAllElse() {
    for (String tape : new String[] {SHORT, "views", "", "#"}) {
      RoundTheModel x = new RoundTheModel();
      seatPaid(x, 3);
      x.painter(0, 2, 7);
      x.pose(104);
      int[] was = new int[15];
      for (int i = 0; i < 15; i++) was[i] = x.told(1, i);
      Due.read(x, tape);
      for (int i = 0; i < 15; i++) is("told(1, " + i + ") behind '" + tape + "'", x.told(1, i), was[i]);
      is("THE RULE", x.count(5), 0);
    }
  }

  static void p06_earlierTextsStay() {
    RoundTheModel x = new RoundTheModel();
    x.painter(0, 0, 0);
    for (int i = 1; i < 6; i++) Due.read(x, "views " + 11 * i + ";warms -" + i + ";minds " + i + ";");
    for (int i = 0; i < 6; i++) {
      x.force(i);
      is("VIEW by " + i, x.told(0, 10), i == 0 ? 10 : 11 * i);
      is("WARMTH by " + i, x.told(0, 11), -i);
      is("MINDS by " + i, x.told(0, 12), i);
    }
  }

  // ---- 7: force

  static void p07_textIsOneOfThem() {
    RoundTheModel x = new RoundTheModel();
    is("force(0)", x.force(0), 0);
    is("force(1) of none", x.force(1), BAD);
    Due.read(x, SHORT);
    is("force(1)", x.force(1), 0);
    is("force(2) of none", x.force(2), BAD);
    is("force(0)", x.force(0), 1);
    // the studio has 2 TEXTS, and forced 1
    unfeltOf("force", Bounds::studio, (y, text) -> y.force(text), BAD, -1, 2, 5, 6, MIN, MAX);
  }

  static void p07_theLastOfSix() {
    RoundTheModel x = new RoundTheModel();
    fullTexts(x);
    is("force(5)", x.force(5), 3);
    is("VIEW", x.told(2, 10), 5);
    is("force(5) again", x.force(5), 5);
    is("force(0)", x.force(0), 5);
    unfeltOf("force", BoundsTextTest::fullTexts, (y, text) -> y.force(text), BAD, -1, 6, 7);
  }

  static void p07_aFaultIsNoText() {
    RoundTheModel x = new RoundTheModel();
    Due.read(x, "views");
    is("force(1)", x.force(1), BAD);
    is("THE RULE", x.count(5), 0);
  }
}
