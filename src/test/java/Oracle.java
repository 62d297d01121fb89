import java.util.ArrayList;
import java.util.List;
import java.util.function.IntUnaryOperator;
import java.util.function.ToIntFunction;
import java.util.function.ToLongFunction;

/**
 * A second reading of the document, written apart from the program: kinds are classes, texts are trees, and the
 * k-th pose in thought is told by a formula, not by walking there.
 */
final class Oracle {
  static final int NOPE = -100000;
  static final long NO = -4611686018427387904L;

  record Seen(int side, int lamp, int stove, int number, int pose, int near, int v, int w, int m) {}

  static class Painter {
    int view(Seen s) { return s.v(); }
    int warmth(Seen s) { return s.w(); }
    int minds(Seen s) { return s.m(); }
  }
  static class Left extends Painter {
    @Override int view(Seen s) { return List.of(1, 2, 3, 4, 5).contains(s.side()) ? super.view(s) * 2 : super.view(s); }
    @Override int minds(Seen s) { return super.minds(s) + 1; }
  }
  static class Tall extends Painter {
    @Override int view(Seen s) { return super.view(s) + 2; }
    @Override int warmth(Seen s) { return s.stove() < 2 ? 0 - super.warmth(s) : super.warmth(s); }
    @Override int minds(Seen s) { return 0; }
  }
  static class Late extends Left {
    @Override int view(Seen s) { return s.pose() < s.number() ? super.view(s) / 2 : super.view(s); }
    @Override int warmth(Seen s) { return super.warmth(s) - s.number(); }
  }
  static class Old extends Tall {
    @Override int view(Seen s) { return s.lamp() > 3 ? 0 : super.view(s); }
    @Override int warmth(Seen s) { return 2 * super.warmth(s); }
    @Override int minds(Seen s) { return super.minds(s) + s.near(); }
  }
  static class Paid extends Painter {
    @Override int view(Seen s) { return 0; }
    @Override int warmth(Seen s) { return 1; }
    @Override int minds(Seen s) { return 0; }
  }
  static final Painter[] KINDS = {new Painter(), new Left(), new Tall(), new Late(), new Old(), new Paid()};

  static final class State implements Cloneable {
    int face = 0, lamp = 0, stove = 5, pose = 0, rule = 0;
    List<int[]> who = new ArrayList<>(); // kind, number, easel, had, pleased

    State same() {
      State s = new State();
      s.face = face; s.lamp = lamp; s.stove = stove; s.pose = pose; s.rule = rule;
      for (int[] w : who) s.who.add(w.clone());
      return s;
    }
    State behind(int k, int turn, int step) {
      State s = same();
      s.face = (face + k * turn) % 11;
      s.pose = pose + k;
      for (int[] w : s.who) w[2] = (w[2] + k * step) % 11;
      return s;
    }
    boolean free(int e) { return e >= 0 && e < 11 && who.stream().noneMatch(w -> w[2] == e); }
  }

  State now = new State();
  State kept = null;
  List<Integer> tape = new ArrayList<>();
  List<Tree> texts = new ArrayList<>();
  List<List<Integer>> rows = new ArrayList<>();
  int[] sorts = {-1, -1, -1, -1};

  record Tree(ToIntFunction<int[]> views, ToIntFunction<int[]> warms, ToIntFunction<int[]> minds) {}

  Oracle() {
    texts.add(new Tree(n -> 10 - n[0], n -> 5 - n[2], n -> n[5]));
    for (int i = 0; i < 4; i++) rows.add(null);
  }

  static int lay(int v, int low, int high) { return v < low ? low : v > high ? high : v; }
  static int away(int a, int b) {
    int fore = ((a - b) % 11 + 11) % 11;
    return Math.min(fore, (11 - fore) % 11 == 0 ? 0 : 11 - fore);
  }

  Seen seen(State s, int i) {
    int[] w = s.who.get(i);
    int side = Math.floorMod(w[2] - s.face, 11);
    int near = 0;
    if (!s.free((w[2] + 1) % 11)) near++;
    if (!s.free((w[2] + 10) % 11)) near++;
    int[] n = {side, away(w[2], s.lamp), away(w[2], s.stove), w[1], s.pose, near};
    Tree t = texts.get(s.rule);
    return new Seen(side, n[1], n[2], w[1], s.pose, near, lay(t.views().applyAsInt(n), 0, 99),
        lay(t.warms().applyAsInt(n), -99, 99), lay(t.minds().applyAsInt(n), -99, 99));
  }
  int view(State s, int i) { return lay(KINDS[s.who.get(i)[0]].view(seen(s, i)), 0, 99); }
  int warmth(State s, int i) { return lay(KINDS[s.who.get(i)[0]].warmth(seen(s, i)), -99, 99); }
  int minds(State s, int i) { return lay(KINDS[s.who.get(i)[0]].minds(seen(s, i)), -99, 99); }
  int by(State s, int i) { return view(s, i) + warmth(s, i) - minds(s, i); }
  int whole(State s) {
    int sum = 0;
    for (int i = 0; i < s.who.size(); i++) sum += by(s, i);
    return sum;
  }
  int[] each(int n, int turn, int step) {
    int[] got = new int[now.who.size()];
    for (int k = 0; k < n; k++) {
      State s = now.behind(k, turn, step);
      for (int i = 0; i < got.length; i++) got[i] += by(s, i);
    }
    return got;
  }
  static int sum(int[] a) { int s = 0; for (int v : a) s += v; return s; }
  static int least(int[] a) { int m = a.length == 0 ? 0 : a[0]; for (int v : a) m = Math.min(m, v); return m; }
  int had(int i, int n, int turn, int step) {
    int bits = now.who.get(i)[3];
    for (int k = 0; k < n; k++) {
      State s = now.behind(k, turn, step);
      bits |= 1 << Math.floorMod(s.who.get(i)[2] - s.face, 11);
    }
    return bits;
  }
  boolean is(int i) { return i >= 0 && i < now.who.size(); }
  static boolean ts(int t) {
    for (int a = 0; a <= 10; a++) for (int b = 0; b <= 10; b++) if (t == 100 * a + b) return true;
    return false;
  }

  int set(int what, int of, int v) {
    boolean ring = v >= 0 && v <= 10;
    int was;
    if (what == 0 && ring) { was = now.face; now.face = v; return was; }
    if (what == 1 && ring) { was = now.lamp; now.lamp = v; return was; }
    if (what == 2 && ring) { was = now.stove; now.stove = v; return was; }
    if (what == 3 && v >= 0 && v <= 999) { was = now.pose; now.pose = v; return was; }
    if (what == 4 && is(of) && v >= 0 && v <= 9) { was = now.who.get(of)[1]; now.who.get(of)[1] = v; return was; }
    if (what == 5 && is(of) && ring && (now.free(v) || now.who.get(of)[2] == v)) {
      was = now.who.get(of)[2]; now.who.get(of)[2] = v; return was;
    }
    return -2;
  }
  int painter(int kind, int number, int easel) {
    if (kind < 0 || kind > 5 || number < 0 || number > 9 || !now.free(easel)) return -2;
    if (now.who.size() == 6) return -4;
    now.who.add(new int[] {kind, number, easel, 0, 0});
    return now.who.size() - 1;
  }
  int told(int of, int what) {
    if (what >= 0 && what <= 3) return new int[] {now.face, now.lamp, now.stove, now.pose}[what];
    if (what < 0 || what > 14 || !is(of)) return NOPE;
    int[] w = now.who.get(of);
    return switch (what) {
      case 4 -> w[1];
      case 5 -> w[2];
      case 6 -> w[0];
      case 7 -> w[3];
      case 8 -> w[4];
      case 9 -> seen(now, of).side();
      case 10 -> view(now, of);
      case 11 -> warmth(now, of);
      case 12 -> minds(now, of);
      case 13 -> by(now, of);
      default -> seen(now, of).near();
    };
  }
  int feed(int letter) {
    if (letter < 0 || letter > 255) return -2;
    if (tape.size() == 160) return -4;
    tape.add(letter);
    return tape.size();
  }
  int text() {
    if (texts.size() == 6) return -4;
    OracleReader r = new OracleReader(tape);
    tape = new ArrayList<>();
    Tree t = r.tree();
    if (t == null) return -100 - r.fault;
    texts.add(t);
    return texts.size() - 1;
  }
  int force(int text) {
    if (text < 0 || text >= texts.size()) return -2;
    int was = now.rule;
    now.rule = text;
    return was;
  }
  int pose(int t) {
    if (!ts(t) || now.pose == 999) return NOPE;
    int whole = whole(now);
    State next = now.behind(1, t / 100, t % 100);
    for (int i = 0; i < now.who.size(); i++) {
      next.who.get(i)[3] = had(i, 1, 0, 0);
      next.who.get(i)[4] = lay(now.who.get(i)[4] + by(now, i), -99999, 99999);
    }
    now = next;
    return whole;
  }
  int run(int n, int t, int what) {
    if (n < 0 || n > 40 || !ts(t)) return NOPE;
    int[] e = each(n, t / 100, t % 100);
    if (what == 0) return sum(e);
    if (what == 1) return least(e);
    if (what == 2) {
      for (int i = 0; i < e.length; i++) if (e[i] == least(e)) return i;
      return -1;
    }
    if (what == 3) return now.behind(n, t / 100, 0).face;
    if (what >= 10 && is(what - 10)) return e[what - 10];
    if (what >= 20 && is(what - 20)) return had(what - 20, n, t / 100, t % 100);
    return NOPE;
  }
  int ring(int what) {
    if (what == 0) return whole(now);
    if (what == 1) return top(now.who.size(), i -> by(now, (int) i));
    if (what == 2) {
      int bits = 0;
      for (int e = 0; e < 11; e++) if (now.free(e)) bits |= 1 << e;
      return bits;
    }
    if (what == 3) {
      if (now.who.isEmpty()) return -1;
      return top(11, e -> now.free((int) e) ? -by(sat(0, (int) e), 0) : Long.MIN_VALUE);
    }
    return NOPE;
  }
  State sat(int i, int e) { State s = now.same(); s.who.get(i)[2] = e; return s; }
  /** The first of n by which f is most, -1 if there is none. */
  static int top(int n, ToLongFunction<Integer> f) {
    int at = -1;
    for (int i = n - 1; i >= 0; i--) if (at < 0 || f.applyAsLong(i) >= f.applyAsLong(at)) at = i;
    return at;
  }
  static long part(long above, long below, int part) {
    for (long d = below; d > 1; d--) if (above % d == 0 && below % d == 0) { above /= d; below /= d; }
    return part == 0 ? above : below;
  }
  long mean(int n, int t, int part) {
    if (n < 0 || n > 40 || !ts(t) || part < 0 || part > 1 || now.who.isEmpty()) return NO;
    return part(sum(each(n, t / 100, t % 100)), now.who.size(), part);
  }
  int best(int n, int what) {
    if (n < 0 || n > 10 || what < 0 || what > 3) return NOPE;
    int[] of = new int[121];
    for (int i = 0; i < 121; i++) of[i] = what < 2 ? sum(each(n, i / 11, i % 11)) : least(each(n, i / 11, i % 11));
    int at = top(121, i -> of[i]);
    return what % 2 == 1 ? of[at] : at / 11 * 100 + at % 11;
  }
  int seat(int i, int what) {
    if (!is(i) || what < 0 || what > 1) return NOPE;
    int own = now.who.get(i)[2];
    int at = top(11, e -> e == own || now.free(e) ? whole(sat(i, e)) : Long.MIN_VALUE);
    return what == 0 ? at : whole(sat(i, at));
  }
  int change(int what) {
    if (what < 0 || what > 7) return NOPE;
    if (what < 2) {
      int most = whole(now), at = -1;
      for (int a = 0; a < now.who.size(); a++)
        for (int b = a + 1; b < now.who.size(); b++) {
          State s = sat(a, now.who.get(b)[2]);
          s.who.get(b)[2] = now.who.get(a)[2];
          if (whole(s) > most) { most = whole(s); at = 10 * a + b; }
        }
      return what == 0 ? at : most;
    }
    int[] of = new int[11];
    for (int e = 0; e < 11; e++) {
      State s = now.same();
      if (what / 2 == 1) s.lamp = e; else if (what / 2 == 2) s.stove = e; else s.face = e;
      of[e] = whole(s);
    }
    int at = top(11, e -> of[e]);
    return what % 2 == 0 ? at : of[at];
  }
  int round(int i, int t) {
    if (!is(i) || !ts(t)) return -2;
    for (int n = 0; n <= 40; n++) if (had(i, n, t / 100, t % 100) == 2047) return n;
    return -1;
  }
  int otherwise(State s, List<Integer> row, int i, int t) {
    for (int k = 0; k < row.size(); k++) if (by(s.behind(k, t / 100, t % 100), i) != row.get(k)) return k;
    return -1;
  }
  int tells(int sheet, int i, int t, int what) {
    if (sheet < 0 || sheet > 3 || !is(i) || !ts(t) || what < 0 || what > 7) return -2;
    List<Integer> row = rows.get(sheet);
    if (row == null) return -11;
    if (row.size() > 20) return -2;
    if (what == 0) return otherwise(now, row, i, t);
    int many = new int[] {0, 6, 10, 11, 11, 11, 11, texts.size()}[what];
    int bits = 0;
    for (int v = 0; v < many; v++) {
      State s = now.same();
      int[] w = s.who.get(i);
      if (what == 1) w[0] = v;
      if (what == 2) w[1] = v;
      if (what == 3) { if (!now.free(v) && w[2] != v) continue; w[2] = v; }
      if (what == 4) s.face = v;
      if (what == 5) s.lamp = v;
      if (what == 6) s.stove = v;
      if (what == 7) s.rule = v;
      if (otherwise(s, row, i, t) < 0) bits += 1 << v;
    }
    return bits;
  }
  int film(int sheet, int i, int t, int n) {
    if (sheet < 0 || sheet > 3 || !is(i) || !ts(t) || n < 0 || n > 20) return -2;
    List<Integer> row = new ArrayList<>();
    for (int k = 0; k < n; k++) row.add(by(now.behind(k, t / 100, t % 100), i));
    rows.set(sheet, row);
    sorts[sheet] = 1;
    return n;
  }
  int drawn(int seed, int n) {
    if (n < 0 || n > 40) return NOPE;
    int z = seed, turned = 0, sum = 0;
    for (int k = 0; k < n; k++) {
      State s = now.behind(k, 0, 0);
      s.face = (now.face + turned) % 11;
      sum += whole(s);
      z = (int) ((z * 1103515245L + 12345L) & 0xffffffffL);
      turned += (int) ((z & 0xffffffffL) / 512 % 11);
    }
    return sum;
  }
  long chance(int seed, int m, int k, int part) {
    if (m < 1 || m > 20 || k < -99999 || k > 99999 || part < 0 || part > 1) return NO;
    int many = 0;
    for (int i = 0; i < m; i++) if (drawn((int) ((long) seed + i), 6) >= k) many++;
    return part(many, m, part);
  }
  int image() { kept = now.same(); return now.who.size(); }
  int back() {
    if (kept == null) return -3;
    now = kept.same();
    return now.who.size();
  }
  int count(int what) {
    int[] of = {now.who.size(), now.pose, 11 - now.who.size(), texts.size(), tape.size(), now.rule};
    return what >= 0 && what < 6 ? of[what] : -2;
  }
  int sheet(int sheet, int sort, int n) {
    if (sheet < 0 || sheet > 3 || sort < -1 || sort > 2) return -2;
    if (sort == -1) { rows.set(sheet, null); sorts[sheet] = -1; return 1; }
    if (n > 40) return -2;
    if (n < 0) return -14;
    rows.set(sheet, new ArrayList<>(java.util.Collections.nCopies(n, 0)));
    sorts[sheet] = sort;
    return 1;
  }
  int cell(int sheet, int i, int v) {
    if (sheet < 0 || sheet > 3) return -2;
    if (rows.get(sheet) == null) return -11;
    if (i < 0 || i >= rows.get(sheet).size()) return -12;
    IntUnaryOperator cut = sorts[sheet] == 0 ? x -> (byte) x : sorts[sheet] == 1 ? x -> (short) x : x -> x;
    rows.get(sheet).set(i, cut.applyAsInt(v));
    return 1;
  }
  int copy(int sheet, int i, int other, int j, int n) {
    if (sheet < 0 || sheet > 3 || other < 0 || other > 3) return -2;
    if (rows.get(sheet) == null || rows.get(other) == null) return -11;
    if (sorts[sheet] != sorts[other]) return -13;
    if (i < 0 || j < 0 || n < 0 || (long) i + n > rows.get(sheet).size() || (long) j + n > rows.get(other).size()) return -12;
    List<Integer> were = new ArrayList<>(rows.get(sheet).subList(i, i + n));
    for (int k = 0; k < n; k++) rows.get(other).set(j + k, were.get(k));
    return n;
  }
  int painters(int sheet, int sort, int from, int n) {
    if (sheet < 0 || sheet > 3 || sort < 0 || sort > 2 || n < 0 || n > 6) return -2;
    if (rows.get(sheet) != null && sorts[sheet] != sort) return -13;
    if (rows.get(sheet) == null) return -11;
    List<Integer> row = rows.get(sheet);
    int came = 0;
    for (long k = from; k < from + 3L * n; k += 3) {
      if (k < 0 || k + 3 > row.size()) return -12;
      int at = (int) k;
      if (painter(row.get(at), row.get(at + 1), row.get(at + 2)) >= 0) came++;
    }
    return came;
  }
  int taken(int i, int k) {
    if (k < 0 || k > 5) return -2;
    if (!is(i)) return -11;
    return KINDS[k].getClass().isInstance(KINDS[now.who.get(i)[0]]) ? now.who.get(i)[1] : -13;
  }
}
