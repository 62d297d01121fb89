/** Promises 23 to 27: sheet, cell, copy, painters, taken. */
public final class BoundsHostTest extends Bounds {
  public static void main(String[] args) throws Exception { runAll(BoundsHostTest.class, 23, 27); }

  /** Painter 0 is PLEASED by POSE less 298, from -198 to 297: so a sheet's numbers can be read. */
  private static RoundTheModel reader() {
    RoundTheModel x = ruled("views pose-496;warms pose-397;minds 199-pose;");
    x.painter(0, 0, 0);
    return x;
  }

  /** Whether item i of a sheet is v (-198 .. 297); sheet 3 is used for it. */
  private static boolean holds(RoundTheModel x, int sheet, int i, int v) {
    x.sheet(3, sortOf(x, sheet), 1);
    x.copy(sheet, i, 3, 0, 1);
    x.set(3, 0, v + 298);
    return x.tells(3, 0, 0, 0) == NONE;
  }

  private static void rowIs(String call, RoundTheModel x, int sheet, int... row) {
    is(call + ": so many", sizeOf(x, sheet), row.length);
    for (int i = 0; i < row.length; i++) is(call + ": item " + i + " is " + row[i], holds(x, sheet, i, row[i]) ? 1 : 0, 1);
  }

  // ---- 23: sheet

  static void p23_sheetIs0To3() {
    for (int sheet = 0; sheet < 4; sheet++) {
      RoundTheModel x = new RoundTheModel();
      is("sheet(" + sheet + ", 0, 2)", x.sheet(sheet, 0, 2), 1);
      for (int i = 0; i < 4; i++) is("the size of " + i, sizeOf(x, i), i == sheet ? 2 : -1);
    }
    unfeltOf("sheet(.., 0, 2)", Bounds::studio, (y, sheet) -> y.sheet(sheet, 0, 2), BAD, -1, 4, MIN, MAX);
    unfeltOf("sheet(.., -1, 2)", Bounds::studio, (y, sheet) -> y.sheet(sheet, -1, 2), BAD, -1, 4, MIN, MAX);
  }

  static void p23_sortIs0To2() {
    RoundTheModel x = new RoundTheModel();
    for (int sort = 0; sort < 3; sort++) {
      is("sort " + sort, x.sheet(1, sort, 3), 1);
      is("it is so", sortOf(x, 1), sort);
    }
    unfeltOf("sheet(1, .., 3)", Bounds::studio, (y, sort) -> y.sheet(1, sort, 3), BAD, -2, 3, MIN, MAX);
    unfeltOf("sheet(3, .., 3)", Bounds::studio, (y, sort) -> y.sheet(3, sort, 3), BAD, -2, 3);
  }

  static void p23_missingWhateverN() {
    for (int n : new int[] {MIN, -1, 0, 40, 41, MAX}) {
      RoundTheModel x = new RoundTheModel();
      is("missing was missing", x.sheet(2, -1, n), 1);
      is("it is", sizeOf(x, 2), -1);
      x.sheet(2, 2, 5);
      is("missing by " + n, x.sheet(2, -1, n), 1);
      is("cell", x.cell(2, 0, 0), NOTHING);
      is("its sort", sortOf(x, 2), -1);
    }
  }

  static void p23_nIs0To40() {
    for (int sort = 0; sort < 3; sort++) {
      int which = sort;
      RoundTheModel x = new RoundTheModel();
      for (int n : new int[] {0, 1, 39, 40, 0}) {
        is("sheet of " + n, x.sheet(0, sort, n), 1);
        is("so many", sizeOf(x, 0), n);
        is("the last", x.cell(0, n - 1, 1), n > 0 ? 1 : OUTSIDE);
        is("behind it", x.cell(0, n, 1), OUTSIDE);
      }
      unfeltOf("sheet(1, " + sort + ", ..)", Bounds::studio, (y, n) -> y.sheet(1, which, n), BAD, 41, 42, MAX);
      unfeltOf("sheet(1, " + sort + ", ..)", Bounds::studio, (y, n) -> y.sheet(1, which, n), BELOW_ZERO, -1, -2, -40, -41, MIN);
    }
  }

  static void p23_badIsAheadOfASizeBelow0() {
    unfelt("no such SHEET", Bounds::studio, y -> y.sheet(4, 0, -1), BAD);
    unfelt("no such SHEET", Bounds::studio, y -> y.sheet(-1, 0, -1), BAD);
    unfelt("no such sort", Bounds::studio, y -> y.sheet(0, 3, -1), BAD);
    unfelt("no such sort", Bounds::studio, y -> y.sheet(0, -2, -1), BAD);
  }

  static void p23_all0() {
    RoundTheModel x = reader();
    for (int sort = 0; sort < 3; sort++) {
      fill(x, 0, sort, 1, 2, 3, 4);
      is("anew", x.sheet(0, sort, 5), 1);
      rowIs("anew", x, 0, 0, 0, 0, 0, 0);
    }
    fill(x, 0, 2, 1, 2, 3);
    x.sheet(0, 2, 1);
    x.sheet(0, 2, 3);
    rowIs("shorter and longer", x, 0, 0, 0, 0);
    fill(x, 0, 2, 1, 2, 3);
    x.sheet(0, -1, 0);
    x.sheet(0, 2, 3);
    rowIs("behind missing", x, 0, 0, 0, 0);
  }

  // ---- 24: cell

  static void p24_sheetIs0To3() {
    unfeltOf("cell(.., 0, 1)", Bounds::studio, (y, sheet) -> y.cell(sheet, 0, 1), BAD, -1, 4, MIN, MAX);
    RoundTheModel x = new RoundTheModel();
    for (int sheet = 0; sheet < 4; sheet++) {
      x.sheet(sheet, 0, 1);
      is("cell(" + sheet + ", 0, 1)", x.cell(sheet, 0, 1), 1);
    }
  }

  static void p24_missing() {
    unfeltOf("cell(3, .., 1)", Bounds::studio, (y, i) -> y.cell(3, i, 1), NOTHING, 0, -1, 1, 40, MIN, MAX);
  }

  static void p24_itemIsInside() {
    for (int sort = 0; sort < 3; sort++) {
      int which = sort;
      RoundTheModel x = reader();
      x.sheet(0, sort, 4);
      is("the first", x.cell(0, 0, 5), 1);
      is("the last", x.cell(0, 3, 7), 1);
      rowIs("the row", x, 0, 5, 0, 0, 7);
      unfeltOf("cell(" + sort + ", .., 1)", Bounds::studio, (y, i) -> y.cell(which, i, 1), OUTSIDE, -1, 4, 5, 39, 40, MIN, MAX);
      x.sheet(1, sort, 40);
      is("item 39 of 40", x.cell(1, 39, 1), 1);
      is("item 40 of 40", x.cell(1, 40, 1), OUTSIDE);
      x.sheet(1, sort, 0);
      is("item 0 of none", x.cell(1, 0, 1), OUTSIDE);
    }
  }

  private static void becomes(int sort, int v, int want) {
    RoundTheModel x = reader();
    x.sheet(0, sort, 3);
    is("cell of sort " + sort, x.cell(0, 1, v), 1);
    is(v + " of sort " + sort + " is " + want, holds(x, 0, 1, want) ? 1 : 0, 1);
    is("ahead of it", holds(x, 0, 0, 0) ? 1 : 0, 1);
    is("behind it", holds(x, 0, 2, 0) ? 1 : 0, 1);
  }

  static void p24_bytesHaveTheirLowest8Bits() {
    int[] v = {0, 1, 127, 128, 129, 255, 256, 257, 383, 384, -1, -127, -128, -129, -130, -256, -257, MIN, MAX};
    int[] want = {0, 1, 127, -128, -127, -1, 0, 1, 127, -128, -1, -127, -128, 127, 126, 0, -1, 0, -1};
    for (int i = 0; i < v.length; i++) becomes(0, v[i], want[i]);
  }

  static void p24_shortsHaveTheirLowest16Bits() {
    int[] v = {127, 128, 255, 256, 297, -198, 65535, 65536, 65537, 65536 - 198, 65536 + 297, -65536, -65535, -65537, MIN, MAX};
    int[] want = {127, 128, 255, 256, 297, -198, -1, 0, 1, -198, 297, 0, 1, -1, 0, -1};
    for (int i = 0; i < v.length; i++) becomes(1, v[i], want[i]);
  }

  static void p24_shortsFrom32768On() {
    RoundTheModel x = new RoundTheModel();
    seatPaid(x, 0);
    fill(x, 0, 1, 32769, 32768 + 32769, -32767);
    // PLEASED by 1: 32769 is -32767, and that is not 1; 65537 is 1
    is("32769", x.tells(0, 0, 0, 0), 0);
    x.copy(0, 1, 0, 0, 1);
    x.copy(0, 1, 0, 2, 1);
    is("65537, thrice", x.tells(0, 0, 0, 0), NONE);
  }

  static void p24_intsHaveAll() {
    for (int v : new int[] {-198, -1, 0, 1, 127, 128, 255, 256, 297}) becomes(2, v, v);
    for (int v : new int[] {256, 65536, 65536 + 256, MIN, 1 << 24}) {
      RoundTheModel x = reader();
      fill(x, 0, 2, v + 5);
      is(v + " and 5 is not 5", holds(x, 0, 0, 5) ? 1 : 0, 0);
    }
  }

  // ---- 25: copy

  static void p25_sheetsAre0To3() {
    unfeltOf("copy of", Bounds::studio, (y, sheet) -> y.copy(sheet, 0, 0, 0, 1), BAD, -1, 4, MIN, MAX);
    unfeltOf("copy to", Bounds::studio, (y, sheet) -> y.copy(0, 0, sheet, 0, 1), BAD, -1, 4, MIN, MAX);
    unfelt("copy of 4 to -1", Bounds::studio, y -> y.copy(4, 0, -1, 0, 1), BAD);
    RoundTheModel x = reader();
    fill(x, 0, 0, 5);
    for (int sheet = 1; sheet < 4; sheet++) {
      x.sheet(sheet, 0, 1);
      is("copy to " + sheet, x.copy(sheet - 1, 0, sheet, 0, 1), 1);
    }
    is("and back", x.copy(3, 0, 0, 0, 1), 1);
    rowIs("the first", x, 0, 5);
  }

  static void p25_missing() {
    unfelt("of a missing one", Bounds::studio, y -> y.copy(3, 0, 0, 0, 1), NOTHING);
    unfelt("to a missing one", Bounds::studio, y -> y.copy(0, 0, 3, 0, 1), NOTHING);
    unfelt("of a missing one to itself", Bounds::studio, y -> y.copy(3, 0, 3, 0, 0), NOTHING);
    unfelt("none of a missing one", Bounds::studio, y -> y.copy(3, 0, 0, 0, 0), NOTHING);
    unfelt("none to a missing one", Bounds::studio, y -> y.copy(0, 0, 3, 0, 0), NOTHING);
  }

  static void p25_unlikeSorts() {
    for (int a = 0; a < 3; a++)
      for (int b = 0; b < 3; b++) {
        int one = a, other = b;
        if (a == b) continue;
        unfelt("sort " + a + " to " + b, Bounds::studio, y -> y.copy(one, 0, other, 0, 1), OTHER_SORT);
        unfelt("none of sort " + a + " to " + b, Bounds::studio, y -> y.copy(one, 0, other, 0, 0), OTHER_SORT);
      }
  }

  static void p25_theFirstThatIsNamed() {
    unfelt("BAD ahead of -11", Bounds::studio, y -> y.copy(3, 0, 4, 0, 1), BAD);
    unfelt("BAD ahead of -12", Bounds::studio, y -> y.copy(0, 0, 4, 0, -1), BAD);
    unfelt("-11 ahead of -12", Bounds::studio, y -> y.copy(3, -1, 0, 0, 1), NOTHING);
    unfelt("-11 ahead of -12", Bounds::studio, y -> y.copy(0, 0, 3, 0, -1), NOTHING);
    unfelt("-13 ahead of -12", Bounds::studio, y -> y.copy(0, -1, 1, 0, 1), OTHER_SORT);
    unfelt("-13 ahead of -12", Bounds::studio, y -> y.copy(0, 0, 1, 0, -1), OTHER_SORT);
    unfelt("-13 ahead of -12", Bounds::studio, y -> y.copy(1, 0, 2, 9, 1), OTHER_SORT);
  }

  /** Sheet 1 has 4 items; sheet 3 has 6 of the same sort. */
  private static void twoRows(RoundTheModel x) {
    studio(x);
    x.sheet(3, 1, 6);
  }

  static void p25_theItemsAreInside() {
    unfeltOf("from", BoundsHostTest::twoRows, (y, i) -> y.copy(1, i, 3, 0, 1), OUTSIDE, -1, 4, 5, MIN, MAX);
    unfeltOf("to", BoundsHostTest::twoRows, (y, j) -> y.copy(1, 0, 3, j, 1), OUTSIDE, -1, 6, 7, MIN, MAX);
    unfeltOf("so many from 0", BoundsHostTest::twoRows, (y, n) -> y.copy(1, 0, 3, 0, n), OUTSIDE, 5, 6, 7, MAX);
    unfeltOf("so many from 3", BoundsHostTest::twoRows, (y, n) -> y.copy(1, 3, 3, 0, n), OUTSIDE, 2, 3, MAX);
    unfeltOf("so many to 5", BoundsHostTest::twoRows, (y, n) -> y.copy(1, 0, 3, 5, n), OUTSIDE, 2, 3, 4, MAX);
    unfeltOf("from far, to far", BoundsHostTest::twoRows, (y, n) -> y.copy(1, MAX, 3, MAX, n), OUTSIDE, 0, 1, 2, MAX);
    unfeltOf("from below", BoundsHostTest::twoRows, (y, n) -> y.copy(1, -2, 3, 0, n), OUTSIDE, 0, 1, 2, 3);
    RoundTheModel x = reader();
    fill(x, 0, 0, 1, 2, 3, 4);
    x.sheet(1, 0, 6);
    is("all of them", x.copy(0, 0, 1, 0, 4), 4);
    is("the last to the last", x.copy(0, 3, 1, 5, 1), 1);
    is("the first to the last but one", x.copy(0, 0, 1, 4, 1), 1);
    rowIs("the row", x, 1, 1, 2, 3, 4, 1, 4);
  }

  static void p25_nBelow0() {
    unfeltOf("copy of", BoundsHostTest::twoRows, (y, n) -> y.copy(1, 0, 3, 0, n), OUTSIDE, -1, -2, MIN);
    unfeltOf("copy of", BoundsHostTest::twoRows, (y, n) -> y.copy(1, 2, 3, 2, n), OUTSIDE, -1, -2, MIN);
  }

  static void p25_none() {
    unfelt("at the beginning", BoundsHostTest::twoRows, y -> y.copy(1, 0, 3, 0, 0), 0);
    unfelt("at both ends", BoundsHostTest::twoRows, y -> y.copy(1, 4, 3, 6, 0), 0);
    unfelt("behind the one's end", BoundsHostTest::twoRows, y -> y.copy(1, 5, 3, 6, 0), OUTSIDE);
    unfelt("behind the other's end", BoundsHostTest::twoRows, y -> y.copy(1, 4, 3, 7, 0), OUTSIDE);
    unfelt("ahead of the one", BoundsHostTest::twoRows, y -> y.copy(1, -1, 3, 0, 0), OUTSIDE);
    unfelt("ahead of the other", BoundsHostTest::twoRows, y -> y.copy(1, 0, 3, -1, 0), OUTSIDE);
    RoundTheModel x = new RoundTheModel();
    x.sheet(0, 0, 0);
    x.sheet(1, 0, 0);
    is("of a row of none", x.copy(0, 0, 1, 0, 0), 0);
    is("one of a row of none", x.copy(0, 0, 1, 0, 1), OUTSIDE);
  }

  static void p25_asTheyWere() {
    for (int sort = 0; sort < 3; sort++) {
      RoundTheModel x = reader();
      fill(x, 0, sort, 1, 2, 3, 4, 5);
      is("one further on", x.copy(0, 0, 0, 1, 4), 4);
      rowIs("one further on", x, 0, 1, 1, 2, 3, 4);
      fill(x, 0, sort, 1, 2, 3, 4, 5);
      is("one back", x.copy(0, 1, 0, 0, 4), 4);
      rowIs("one back", x, 0, 2, 3, 4, 5, 5);
      is("onto itself", x.copy(0, 0, 0, 0, 5), 5);
      rowIs("onto itself", x, 0, 2, 3, 4, 5, 5);
    }
  }

  static void p25_fromStays() {
    RoundTheModel x = reader();
    fill(x, 0, 2, 7, 8, 9);
    fill(x, 1, 2, 1, 2, 3);
    is("copy", x.copy(0, 1, 1, 0, 2), 2);
    rowIs("from", x, 0, 7, 8, 9);
    rowIs("to", x, 1, 8, 9, 3);
  }

  // ---- 26: painters

  /** Rows of two whole painters and two numbers more, at free easels of the studio. */
  private static final int[] TWO = {0, 1, 2, 5, 9, 3, 1, 1};

  private static RoundTheModel rowOf(int sort, int... row) {
    RoundTheModel x = new RoundTheModel();
    fill(x, 0, sort, row);
    return x;
  }

  static void p26_sheetIs0To3() {
    unfeltOf("painters of", Bounds::studio, (y, sheet) -> y.painters(sheet, 0, 0, 1), BAD, -1, 4, MIN, MAX);
    unfeltOf("none of", Bounds::studio, (y, sheet) -> y.painters(sheet, 0, 0, 0), BAD, -1, 4);
    for (int sheet = 0; sheet < 4; sheet++) {
      RoundTheModel x = new RoundTheModel();
      fill(x, sheet, 0, 0, 1, 2);
      is("painters of " + sheet, x.painters(sheet, 0, 0, 1), 1);
    }
  }

  static void p26_sortIs0To2() {
    unfeltOf("painters of sort", Bounds::studio, (y, sort) -> y.painters(0, sort, 0, 1), BAD, -1, 3, MIN, MAX);
    unfeltOf("none of sort", Bounds::studio, (y, sort) -> y.painters(0, sort, 0, 0), BAD, -1, 3);
    for (int sort = 0; sort < 3; sort++) is("painters of sort " + sort, rowOf(sort, 0, 1, 2).painters(0, sort, 0, 1), 1);
  }

  static void p26_nIs0To6() {
    int[] six = {0, 0, 0, 1, 1, 1, 2, 2, 2, 3, 3, 3, 4, 4, 4, 5, 5, 5, 0, 0, 6};
    for (int n = 0; n < 7; n++) {
      RoundTheModel x = rowOf(1, six);
      is(n + " painters", x.painters(0, 1, 0, n), n);
      is("so many", x.count(0), n);
      for (int i = 0; i < n; i++) {
        is("KIND", x.told(i, 6), i);
        is("NUMBER", x.told(i, 4), i);
        is("EASEL", x.told(i, 5), i);
      }
    }
    unfeltOf("so many painters", Bounds::studio, (y, n) -> y.painters(0, 0, 0, n), BAD, -1, 7, MIN, MAX);
  }

  static void p26_anotherSort() {
    for (int is = 0; is < 3; is++)
      for (int as = 0; as < 3; as++) {
        int sheet = is, sort = as;
        if (is != as) unfelt(is + " taken for " + as, Bounds::studio, y -> y.painters(sheet, sort, 0, 1), OTHER_SORT);
        if (is != as) unfelt(is + " taken for " + as + ", none", Bounds::studio, y -> y.painters(sheet, sort, 0, 0), OTHER_SORT);
      }
  }

  static void p26_missing() {
    for (int sort = 0; sort < 3; sort++) {
      int which = sort;
      unfelt("missing", Bounds::studio, y -> y.painters(3, which, 0, 1), NOTHING);
      unfelt("missing, none", Bounds::studio, y -> y.painters(3, which, 0, 0), NOTHING);
    }
  }

  static void p26_theFirstThatIsNamed() {
    unfelt("BAD ahead of -13: n", Bounds::studio, y -> y.painters(0, 1, 0, 7), BAD);
    unfelt("BAD ahead of -11: n", Bounds::studio, y -> y.painters(3, 0, 0, 7), BAD);
    unfelt("BAD ahead of -11: sort", Bounds::studio, y -> y.painters(3, 3, 0, 1), BAD);
    unfelt("BAD ahead of -12: n", Bounds::studio, y -> y.painters(0, 0, -1, 7), BAD);
    unfelt("-13 ahead of -12", Bounds::studio, y -> y.painters(0, 1, -1, 1), OTHER_SORT);
    unfelt("-11 ahead of -12", Bounds::studio, y -> y.painters(3, 1, -1, 1), NOTHING);
  }

  static void p26_fromIsInside() {
    for (int from : new int[] {-1, -3, 6, 7, 8, 9, MIN, MAX, MAX - 2}) {
      RoundTheModel x = rowOf(2, TWO);
      is("from " + from, x.painters(0, 2, from, 1), OUTSIDE);
      is("nobody came", x.count(0), 0);
      is("two from " + from, x.painters(0, 2, from, 2), OUTSIDE);
      is("nobody came", x.count(0), 0);
    }
    unfeltOf("from", y -> { studio(y); fill(y, 3, 1, TWO); }, (y, from) -> y.painters(3, 1, from, 6), OUTSIDE, -1, -3, 6, 8, MIN, MAX);
    int[] first = {0, 1, 3, 5};
    int[][] row = {{0, 1, 2}, {1, 2, 5}, {5, 9, 3}, {3, 1, 1}};
    for (int i = 0; i < 4; i++) {
      RoundTheModel x = rowOf(2, TWO);
      is("from item " + first[i], x.painters(0, 2, first[i], 1), 1);
      is("KIND", x.told(0, 6), row[i][0]);
      is("NUMBER", x.told(0, 4), row[i][1]);
      is("EASEL", x.told(0, 5), row[i][2]);
    }
    is("of a row of none", rowOf(0).painters(0, 0, 0, 1), OUTSIDE);
    is("of a row of 2", rowOf(0, 1, 1).painters(0, 0, 0, 1), OUTSIDE);
    is("the last three of 40", lastOf40(37), 1);
    is("two of the last three of 40", lastOf40(38), OUTSIDE);
  }

  private static int lastOf40(int from) {
    RoundTheModel x = new RoundTheModel();
    x.sheet(0, 0, 40);
    return x.painters(0, 0, from, 1);
  }

  static void p26_whatStoodAheadCame() {
    RoundTheModel x = rowOf(1, TWO);
    is("the third is not whole", x.painters(0, 1, 0, 3), OUTSIDE);
    is("two came", x.count(0), 2);
    is("KIND of the second", x.told(1, 6), 5);
    is("nobody else", x.told(2, 6), NOPE);
    x = rowOf(1, TWO);
    is("the second is not whole", x.painters(0, 1, 3, 6), OUTSIDE);
    is("one came", x.count(0), 1);
    is("KIND", x.told(0, 6), 5);
    x = rowOf(1, 0, 0, 0, 6, 0, 1, 0, 0, 2);
    is("one of three is none, and then the end", x.painters(0, 1, 0, 4), OUTSIDE);
    is("two came", x.count(0), 2);
    seatPaid(x, 3, 4, 5, 6);
    is("none has room, and then the end", x.painters(0, 1, 0, 4), OUTSIDE);
    is("six", x.count(0), 6);
  }

  static void p26_none() {
    for (int from : new int[] {0, 7, 8}) unfelt("none from " + from, y -> { studio(y); fill(y, 3, 1, TWO); }, y -> y.painters(3, 1, from, 0), 0);
    is("none of a row of none", rowOf(0).painters(0, 0, 0, 0), 0);
  }

  static void p26_othersAreLeftOut() {
    int[][] out = {{-1, 0, 0}, {6, 0, 0}, {0, -1, 0}, {0, 10, 0}, {0, 0, -1}, {0, 0, 11}, {0, 0, 7}};
    for (int[] o : out) {
      RoundTheModel x = new RoundTheModel();
      x.painter(0, 0, 7);
      fill(x, 0, 0, o[0], o[1], o[2], 5, 9, 10, o[0], o[1], o[2]);
      is("one of three", x.painters(0, 0, 0, 3), 1);
      is("two are there", x.count(0), 2);
      is("KIND", x.told(1, 6), 5);
      is("NUMBER", x.told(1, 4), 9);
      is("EASEL", x.told(1, 5), 10);
    }
    RoundTheModel x = rowOf(0, 1, 1, 1, 2, 2, 1, 3, 3, 2);
    is("no two at one EASEL", x.painters(0, 0, 0, 3), 2);
    is("KIND of the second", x.told(1, 6), 3);
    is("the same again: nobody", x.painters(0, 0, 0, 3), 0);
    is("two", x.count(0), 2);
  }

  static void p26_noMoreThanSix() {
    RoundTheModel x = rowOf(2, 1, 1, 5, 2, 2, 6, 3, 3, 7);
    seatPaid(x, 0, 1, 2, 3, 4);
    is("one has room", x.painters(0, 2, 0, 3), 1);
    is("six", x.count(0), 6);
    is("KIND of the sixth", x.told(5, 6), 1);
    is("none has room", x.painters(0, 2, 3, 2), 0);
    is("six", x.count(0), 6);
    unfelt("none has room", y -> { crowded(y); fill(y, 3, 2, 0, 0, 2, 0, 0, 3); }, y -> y.painters(3, 2, 0, 2), 0);
  }

  static void p26_theirLowestBits() {
    RoundTheModel x = rowOf(0, 256 + 3, 512 + 4, 256 + 5);
    is("bytes", x.painters(0, 0, 0, 1), 1);
    is("NUMBER", x.taken(0, 3), 4);
    x = rowOf(1, 65536 + 3, 65536 + 4, 5 - 65536);
    is("shorts", x.painters(0, 1, 0, 1), 1);
    is("NUMBER", x.taken(0, 3), 4);
    is("shorts have 256", rowOf(1, 256 + 3, 4, 5).painters(0, 1, 0, 1), 0);
    is("ints have 65536", rowOf(2, 65536 + 3, 4, 5).painters(0, 2, 0, 1), 0);
  }

  static void p26_theSheetStays() {
    RoundTheModel x = reader();
    fill(x, 0, 2, 0, 1, 2, 5, 9, 3);
    is("painters", x.painters(0, 2, 0, 2), 2);
    rowIs("the sheet", x, 0, 0, 1, 2, 5, 9, 3);
    is("its sort", sortOf(x, 0), 2);
  }

  // ---- 27: taken

  static void p27_kIs0To5() {
    unfeltOf("taken(0, ..)", Bounds::studio, (y, k) -> y.taken(0, k), BAD, -1, 6, MIN, MAX);
    RoundTheModel x = new RoundTheModel();
    x.painter(0, 3, 0);
    x.painter(5, 4, 1);
    is("k 0", x.taken(0, 0), 3);
    is("k 5", x.taken(1, 5), 4);
  }

  static void p27_noSuchPainter() {
    for (int k = 0; k < 6; k++) {
      int kind = k;
      unfeltOf("taken for " + k, Bounds::studio, (y, who) -> y.taken(who, kind), NOTHING, -1, 4, 5, 6, MIN, MAX);
      unfeltOf("taken for " + k, Bounds::crowded, (y, who) -> y.taken(who, kind), NOTHING, -1, 6);
      is("nobody", new RoundTheModel().taken(0, k), NOTHING);
    }
  }

  static void p27_badIsAheadOfNothing() {
    unfelt("taken(4, 6)", Bounds::studio, y -> y.taken(4, 6), BAD);
    unfelt("taken(-1, -1)", Bounds::studio, y -> y.taken(-1, -1), BAD);
    is("taken(0, 6) of nobody", new RoundTheModel().taken(0, 6), BAD);
  }

  static void p27_anotherKind() {
    int[][] of = {{0}, {0, 1}, {0, 2}, {0, 1, 3}, {0, 2, 4}, {0, 5}};
    for (int kind = 0; kind < 6; kind++)
      for (int k = 0; k < 6; k++) {
        boolean under = false;
        for (int o : of[kind]) under |= o == k;
        int whose = kind, taken = k;
        unfelt(kind + " taken for " + k, y -> y.painter(whose, 7, 3), y -> y.taken(0, taken), under ? 7 : OTHER_SORT);
      }
  }

  static void p27_theNumber0To9() {
    RoundTheModel x = new RoundTheModel();
    x.painter(4, 0, 0);
    x.painter(3, 9, 1);
    is("0", x.taken(0, 2), 0);
    is("9", x.taken(1, 1), 9);
    x.set(4, 0, 9);
    is("9", x.taken(0, 4), 9);
  }
}
