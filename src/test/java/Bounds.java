import java.lang.reflect.Method;
import java.util.ArrayList;
import java.util.List;
import java.util.TreeMap;

/**
 * What the tests of boundaries share. A test bears its promise's number (p02_...). A refused call is held to what it
 * may change, which is nothing: of two objects made alike one hears it, and then both must answer all else alike.
 */
abstract class Bounds {
  static final int NONE = -1, BAD = -2, STATE = -3, FULL = -4, NOPE = -100000;
  static final int NOTHING = -11, OUTSIDE = -12, OTHER_SORT = -13, BELOW_ZERO = -14;
  static final long NO = -4611686018427387904L;
  static final int MIN = Integer.MIN_VALUE, MAX = Integer.MAX_VALUE;

  interface Made { void on(RoundTheModel x); }
  interface Call { long on(RoundTheModel x); }
  interface CallOf { long on(RoundTheModel x, int v); }

  private static final Due due = new Due();
  private static String test = "";

  /** Runs each pNN_ method of a class; each of the promises first .. last has to have one. */
  static void runAll(Class<?> tests, int first, int last) throws Exception {
    TreeMap<String, Method> found = new TreeMap<>();
    for (Method m : tests.getDeclaredMethods()) if (m.getName().matches("p\\d\\d_\\w+")) found.put(m.getName(), m);
    for (int p = first; p <= last; p++) {
      String number = String.format("p%02d_", p);
      due.is("a test of promise " + p, found.keySet().stream().anyMatch(n -> n.startsWith(number)) ? 1 : 0, 1);
    }
    for (Method m : found.values()) {
      test = m.getName();
      m.invoke(null);
    }
    System.out.println(found.size() + " tests of boundaries");
    due.end();
  }

  static void is(String call, long got, long want) { due.is(test + ": " + call, got, want); }

  static RoundTheModel ruled(String text) {
    RoundTheModel x = new RoundTheModel();
    is("text '" + text + "'", Due.read(x, text), 1);
    is("force(1)", x.force(1), 0);
    return x;
  }

  static void feed(RoundTheModel x, String letters) {
    for (int i = 0; i < letters.length(); i++) x.feed(letters.charAt(i));
  }

  static void fill(RoundTheModel x, int sheet, int sort, int... row) {
    x.sheet(sheet, sort, row.length);
    for (int i = 0; i < row.length; i++) x.cell(sheet, i, row[i]);
  }

  /** Who is PAID sits at each of the easels, so that nobody minds and each is PLEASED by 1. */
  static void seatPaid(RoundTheModel x, int... easels) {
    for (int easel : easels) x.painter(5, 0, easel);
  }

  /**
   * Four painters with poses behind them, at 9, 1, 4 and 0, an image, half a text on the tape, a row of each sort that
   * tells what painter 0 is PLEASED by, and sheet 3 missing.
   */
  static void studio(RoundTheModel x) {
    Due.read(x, "views 12-side;warms 6-lamp;minds near+1;");
    x.set(1, 0, 7);
    x.painter(0, 3, 2);
    x.painter(3, 9, 5);
    x.painter(4, 1, 8);
    x.pose(203);
    x.image();
    x.pose(1004);
    x.painter(1, 4, 0);
    x.force(1);
    x.film(1, 0, 102, 4);
    int[] seen = new int[4];
    for (int k = 0; k < 4; k++) seen[k] = x.run(k + 1, 102, 10) - x.run(k, 102, 10);
    fill(x, 0, 0, seen);
    fill(x, 2, 2, seen);
    feed(x, "views 7;warms 8;mi");
  }

  /** Six painters, at 9, 1, 4, 0, 10 and 6: no more have room. */
  static void crowded(RoundTheModel x) {
    studio(x);
    x.painter(2, 0, 10);
    x.painter(5, 9, 6);
  }

  /** The call is answered so, and behind it all is as if it had not been. */
  static void unfelt(String call, Made made, Call c, long want) {
    RoundTheModel heard = new RoundTheModel();
    RoundTheModel other = new RoundTheModel();
    made.on(heard);
    made.on(other);
    is(call, c.on(heard), want);
    List<String> calls = new ArrayList<>();
    List<Long> a = answers(heard, calls);
    List<Long> b = answers(other, calls);
    for (int i = 0; i < a.size(); i++) is(calls.get(i) + " behind " + call, a.get(i), b.get(i));
  }

  /** As unfelt, for each of some values. */
  static void unfeltOf(String call, Made made, CallOf c, long want, int... values) {
    for (int v : values) unfelt(call + " by " + v, made, x -> c.on(x, v), want);
  }

  /** Some 220 calls, the ones that change something last: who asks has made fewer than 290. */
  private static List<Long> answers(RoundTheModel x, List<String> calls) {
    List<Long> a = new ArrayList<>();
    for (int what = 0; what < 4; what++) put(a, calls, "told(0, " + what + ")", x.told(0, what));
    for (int who = 0; who < 6; who++) {
      for (int what = 4; what < 15; what++) put(a, calls, "told(" + who + ", " + what + ")", x.told(who, what));
      put(a, calls, "run(3, 102, 20 + " + who + ")", x.run(3, 102, 20 + who));
    }
    for (int what = 0; what < 6; what++) put(a, calls, "count(" + what + ")", x.count(what));
    for (int what = 0; what < 4; what++) put(a, calls, "ring(" + what + ")", x.ring(what));
    for (int what = 0; what < 8; what++) put(a, calls, "change(" + what + ")", x.change(what));
    put(a, calls, "best(2, 0)", x.best(2, 0));
    put(a, calls, "best(2, 2)", x.best(2, 2));
    for (int sheet = 0; sheet < 4; sheet++) askSheet(a, calls, x, sheet);
    for (char c : "nds 9;".toCharArray()) put(a, calls, "feed '" + c + "'", x.feed(c));
    put(a, calls, "text()", x.text());
    put(a, calls, "force of the last", x.force(x.count(3) - 1));
    for (int what = 10; what < 13; what++) put(a, calls, "told(0, " + what + ") by it", x.told(0, what));
    put(a, calls, "back()", x.back());
    put(a, calls, "count(5) by the image", x.count(5));
    for (int what = 0; what < 4; what++) put(a, calls, "told(0, " + what + ") by the image", x.told(0, what));
    for (int who = 0; who < 6; who++)
      for (int what = 4; what < 9; what++)
        put(a, calls, "told(" + who + ", " + what + ") by the image", x.told(who, what));
    return a;
  }

  private static void askSheet(List<Long> a, List<String> calls, RoundTheModel x, int sheet) {
    for (int what = 0; what < 8; what++)
      put(a, calls, "tells(" + sheet + ", 0, 102, " + what + ")", x.tells(sheet, 0, 102, what));
    for (int sort = 0; sort < 3; sort++)
      put(a, calls, "painters(" + sheet + ", " + sort + ", 0, 0)", x.painters(sheet, sort, 0, 0));
    put(a, calls, "the size of " + sheet, sizeOf(x, sheet));
  }

  private static void put(List<Long> a, List<String> calls, String call, long answer) {
    a.add(answer);
    calls.add(call);
  }

  /** A copy of none is fine up to the end and no further; -1: the sheet is missing. */
  static int sizeOf(RoundTheModel x, int sheet) {
    int low = -1, high = 41;
    while (high - low > 1) {
      int at = (low + high) / 2;
      if (x.copy(sheet, at, sheet, at, 0) == 0) low = at; else high = at;
    }
    return low;
  }

  /** 0, 1 or 2; -1: the sheet is missing. */
  static int sortOf(RoundTheModel x, int sheet) {
    for (int sort = 0; sort < 3; sort++) if (x.painters(sheet, sort, 0, 0) == 0) return sort;
    return -1;
  }
}
