import java.util.Random;

/** Long runs of calls, drawn by a fixed seed, answered by the program and by the oracle. */
public final class OracleTest {
  private static final Due due = new Due();
  private static final String[] NAMES = {"side", "lamp", "stove", "number", "pose", "near"};
  private static Random r;
  private static int calls;

  public static void main(String[] args) {
    int runs = args.length > 0 ? Integer.parseInt(args[0]) : 400;
    for (int i = 0; i < runs; i++) {
      r = new Random(1000 + i);
      oneRun(i);
    }
    due.end();
  }

  private static void oneRun(int run) {
    RoundTheModel x = new RoundTheModel();
    Oracle o = new Oracle();
    String text = "";
    int fed = 0;
    int crowd = r.nextInt(8);
    // what an object answers behind its 512th call is free; the dearest turn here makes 18 calls
    calls = 0;
    for (int k = 0; calls < 512 - 18; k++) {
      calls++;
      if (k < crowd) {
        int a = r.nextInt(6), b = r.nextInt(10), c = r.nextInt(11);
        due.is(run + "/" + k + " painter " + a + " " + b + " " + c, x.painter(a, b, c), o.painter(a, b, c));
      } else if (fed < text.length()) {
        int c = text.charAt(fed++);
        due.is(run + "/" + k + " feed " + c, x.feed(c), o.feed(c));
      } else if (!text.isEmpty() && r.nextInt(4) > 0) {
        due.is(run + "/" + k + " text '" + text + "'", x.text(), o.text());
        text = "";
        fed = 0;
      } else if (r.nextInt(25) == 0) {
        text = anyText();
        fed = 0;
      } else {
        anyCall(run + "/" + k, x, o);
      }
    }
  }

  /** Mostly 0 to top, now and then a little or far outside. */
  private static int upTo(int top) {
    int odd = r.nextInt(60);
    if (odd == 0) return -1;
    if (odd == 1) return top + 1;
    if (odd == 2) return r.nextInt();
    if (odd == 3) return r.nextBoolean() ? Integer.MIN_VALUE : Integer.MAX_VALUE;
    return r.nextInt(top + 1);
  }

  private static int turnStep() {
    int odd = r.nextInt(30);
    if (odd == 0) return r.nextInt(1300);
    return 100 * upTo(10) + upTo(10);
  }

  private static int who() { return upTo(5); }

  private static void anyCall(String at, RoundTheModel x, Oracle o) {
    int a, b, c, d, e;
    switch (r.nextInt(34)) {
      case 0: case 1: a = upTo(5); b = who(); c = a == 3 ? (r.nextInt(3) == 0 ? upTo(999) : upTo(9)) : upTo(10);
        due.is(at + " set " + a + " " + b + " " + c, x.set(a, b, c), o.set(a, b, c)); break;
      case 2: a = upTo(5); b = upTo(9); c = upTo(10);
        due.is(at + " painter " + a + " " + b + " " + c, x.painter(a, b, c), o.painter(a, b, c)); break;
      case 3: case 4: case 5: case 6: a = who(); b = upTo(14);
        due.is(at + " told " + a + " " + b, x.told(a, b), o.told(a, b)); break;
      case 7: a = upTo(255); due.is(at + " feed " + a, x.feed(a), o.feed(a)); break;
      case 8: if (r.nextInt(4) == 0) due.is(at + " text", x.text(), o.text()); break;
      case 9: calls++; a = upTo(x.count(3) - 1); due.is(at + " force " + a, x.force(a), o.force(a)); break;
      case 10: case 11: a = turnStep(); due.is(at + " pose " + a, x.pose(a), o.pose(a)); break;
      case 12: case 13: a = upTo(40); b = turnStep(); c = r.nextBoolean() ? upTo(3) : upTo(26);
        due.is(at + " run " + a + " " + b + " " + c, x.run(a, b, c), o.run(a, b, c)); break;
      case 14: a = upTo(3); due.is(at + " ring " + a, x.ring(a), o.ring(a)); break;
      case 15: a = upTo(40); b = turnStep(); c = upTo(1);
        due.is(at + " mean " + a + " " + b + " " + c, x.mean(a, b, c), o.mean(a, b, c)); break;
      case 16: if (r.nextInt(4) > 0) break; a = upTo(10); b = upTo(3);
        due.is(at + " best " + a + " " + b, x.best(a, b), o.best(a, b)); break;
      case 17: a = who(); b = upTo(1); due.is(at + " seat " + a + " " + b, x.seat(a, b), o.seat(a, b)); break;
      case 18: a = upTo(7); due.is(at + " change " + a, x.change(a), o.change(a)); break;
      case 19: a = who(); b = turnStep(); due.is(at + " round " + a + " " + b, x.round(a, b), o.round(a, b)); break;
      case 20: a = upTo(3); b = who(); c = turnStep(); d = upTo(7);
        due.is(at + " tells " + a + " " + b + " " + c + " " + d, x.tells(a, b, c, d), o.tells(a, b, c, d)); break;
      case 21: case 22: filmAndTell(at, x, o); break;
      case 23: a = r.nextInt(); b = upTo(40); due.is(at + " drawn " + a + " " + b, x.drawn(a, b), o.drawn(a, b)); break;
      case 24: a = r.nextInt(20) == 0 ? Integer.MAX_VALUE : r.nextInt(); b = r.nextInt(20) == 0 ? 0 : 1 + upTo(19);
        c = r.nextInt(20) == 0 ? upTo(100000) : o.drawn(a, 6) + r.nextInt(5) - 2; d = upTo(1);
        due.is(at + " chance " + a + " " + b + " " + c + " " + d, x.chance(a, b, c, d), o.chance(a, b, c, d)); break;
      case 25: if (r.nextBoolean()) due.is(at + " image", x.image(), o.image()); break;
      case 26: if (r.nextBoolean()) due.is(at + " back", x.back(), o.back()); break;
      case 27: a = upTo(5); due.is(at + " count " + a, x.count(a), o.count(a)); break;
      case 28: a = upTo(3); b = upTo(3) - 1; c = r.nextBoolean() ? upTo(40) : upTo(20);
        due.is(at + " sheet " + a + " " + b + " " + c, x.sheet(a, b, c), o.sheet(a, b, c)); break;
      case 29: case 30: a = upTo(3); b = upTo(20); c = r.nextInt(4) == 0 ? r.nextInt() : r.nextInt(400) - 200;
        due.is(at + " cell " + a + " " + b + " " + c, x.cell(a, b, c), o.cell(a, b, c)); break;
      case 31: a = upTo(3); b = upTo(10); c = upTo(3); d = upTo(10); e = upTo(10);
        due.is(at + " copy " + a + " " + b + " " + c + " " + d + " " + e, x.copy(a, b, c, d, e), o.copy(a, b, c, d, e)); break;
      case 32: if (r.nextBoolean()) crowdBySheet(at, x, o); break;
      default: a = who(); b = upTo(5); due.is(at + " taken " + a + " " + b, x.taken(a, b), o.taken(a, b)); break;
    }
  }

  /** Films, perhaps changes something, and reads back, so that most bits stand now and then. */
  private static void filmAndTell(String at, RoundTheModel x, Oracle o) {
    calls += 2;
    int a = upTo(3), b = who(), c = turnStep(), d = r.nextBoolean() ? upTo(3) : upTo(20);
    due.is(at + " film " + a + " " + b + " " + c + " " + d, x.film(a, b, c, d), o.film(a, b, c, d));
    if (r.nextInt(3) == 0) {
      int i = upTo(19), v = r.nextInt(20) - 5;
      due.is(at + " cell " + a + " " + i + " " + v, x.cell(a, i, v), o.cell(a, i, v));
    }
    int what = upTo(7);
    due.is(at + " tells " + a + " " + b + " " + c + " " + what, x.tells(a, b, c, what), o.tells(a, b, c, what));
  }

  private static void crowdBySheet(String at, RoundTheModel x, Oracle o) {
    calls += 16;
    int a = upTo(3), sort = upTo(2), from = upTo(6), n = upTo(6);
    if (r.nextInt(3) > 0) due.is(at + " sheet", x.sheet(a, sort, 15), o.sheet(a, sort, 15));
    for (int i = 0; i < 15; i++) {
      int v = i % 3 == 0 ? upTo(5) : i % 3 == 1 ? upTo(9) : upTo(10);
      due.is(at + " cell " + a + " " + i + " " + v, x.cell(a, i, v), o.cell(a, i, v));
    }
    if (r.nextInt(5) == 0) sort = upTo(2);
    due.is(at + " painters " + a + " " + sort + " " + from + " " + n, x.painters(a, sort, from, n), o.painters(a, sort, from, n));
  }

  private static String anyText() {
    StringBuilder b = new StringBuilder();
    int depth = r.nextInt(5);
    for (String key : new String[] {"views", "warms", "minds"}) {
      b.append(gap()).append(key).append(' ');
      either(b, depth);
      b.append(gap()).append(';');
    }
    b.append(gap());
    if (r.nextInt(3) == 0 && b.length() > 0) spoil(b);
    return b.toString();
  }

  private static void spoil(StringBuilder b) {
    int at = r.nextInt(b.length());
    String odd = "()();+-*<=az09 \nA\t/:`{";
    switch (r.nextInt(5)) {
      case 0: b.setCharAt(at, odd.charAt(r.nextInt(odd.length()))); break;
      case 1: b.deleteCharAt(at); break;
      case 2: b.insert(at, odd.charAt(r.nextInt(odd.length()))); break;
      case 3: b.setLength(at); break;
      default: b.insert(at, new String[] {" not ", " - - - - - - ", "((((((", "12345", " views ", " or ", " and "}[r.nextInt(7)]);
    }
  }

  private static String gap() { return new String[] {"", " ", "\n", "  "}[r.nextInt(4)]; }

  private static void either(StringBuilder b, int depth) {
    both(b, depth);
    if (r.nextInt(8) == 0) { b.append(" or "); both(b, depth); }
  }
  private static void both(StringBuilder b, int depth) {
    not(b, depth);
    if (r.nextInt(8) == 0) { b.append(" and "); not(b, depth); }
  }
  private static void not(StringBuilder b, int depth) {
    if (depth > 0 && r.nextInt(10) == 0) { b.append(" not "); not(b, depth - 1); return; }
    sum(b, depth);
    if (r.nextInt(8) == 0) { b.append(gap()).append(r.nextBoolean() ? '<' : '='); sum(b, depth); }
  }
  private static void sum(StringBuilder b, int depth) {
    term(b, depth);
    for (int i = r.nextInt(3); i > 0; i--) { b.append(gap()).append(r.nextBoolean() ? '+' : '-'); term(b, depth); }
  }
  private static void term(StringBuilder b, int depth) {
    one(b, depth);
    if (r.nextInt(4) == 0) { b.append('*').append(gap()); one(b, depth); }
  }
  private static void one(StringBuilder b, int depth) {
    int odd = r.nextInt(8);
    if (odd < 2) b.append(r.nextInt(20));
    else if (odd == 2 && r.nextInt(4) == 0) b.append(r.nextInt(10000));
    else if (odd == 3 && depth > 0) { b.append('-'); one(b, depth - 1); }
    else if (odd == 4 && depth > 0) { b.append('('); either(b, depth - 1); b.append(gap()).append(')'); }
    else b.append(NAMES[r.nextInt(6)]);
  }
}
