import java.util.ArrayList;
import java.util.List;
import java.util.Set;
import java.util.function.ToIntFunction;

/** The oracle's reader: all tokens first, then a descent over them that makes a tree. */
final class OracleReader {
  private static final List<String> NAMES = List.of("side", "lamp", "stove", "number", "pose", "near");
  private static final Set<String> KEYS = Set.of("views", "warms", "minds", "or", "and", "not");

  private static final class Fault extends RuntimeException {
    final int place;
    Fault(int place) { super(null, null, false, false); this.place = place; }
  }
  private record Token(String is, int place) {}

  private final List<Token> tokens = new ArrayList<>();
  private int at = 0;
  private int open = 0;
  int fault = -1;

  OracleReader(List<Integer> tape) {
    StringBuilder b = new StringBuilder();
    for (int c : tape) b.append((char) c);
    String s = b.toString();
    int i = 0;
    while (i < s.length()) {
      int from = i;
      char c = s.charAt(i);
      if (c == ' ' || c == '\n') { i++; continue; }
      while (i < s.length() && alike(c, s.charAt(i))) i++;
      if (i == from) i++;
      String t = s.substring(from, i);
      boolean fine = c >= 'a' && c <= 'z' ? NAMES.contains(t) || KEYS.contains(t)
          : c >= '0' && c <= '9' ? t.length() < 5 : "();+-*<=".indexOf(c) >= 0;
      tokens.add(new Token(fine ? t : "?", from));
    }
    tokens.add(new Token("", s.length()));
  }

  private static boolean alike(char a, char b) {
    return a >= 'a' && a <= 'z' && b >= 'a' && b <= 'z' || a >= '0' && a <= '9' && b >= '0' && b <= '9';
  }

  Oracle.Tree tree() {
    try {
      ToIntFunction<int[]> v = part("views"), w = part("warms"), m = part("minds");
      due("");
      return new Oracle.Tree(v, w, m);
    } catch (Fault f) {
      fault = f.place;
      return null;
    }
  }

  private ToIntFunction<int[]> part(String key) {
    due(key);
    ToIntFunction<int[]> e = e();
    due(";");
    return e;
  }
  private boolean here(String is) { return tokens.get(at).is().equals(is); }
  private Fault fault() { return new Fault(tokens.get(at).place()); }
  private void due(String is) {
    if (!here(is)) throw fault();
    if (!is.isEmpty()) at++;
  }
  private void opened() {
    if (open == 5) throw fault();
    open++;
    at++;
  }
  private ToIntFunction<int[]> e() {
    ToIntFunction<int[]> a = and();
    while (here("or")) {
      at++;
      ToIntFunction<int[]> l = a, r = and();
      a = n -> l.applyAsInt(n) != 0 || r.applyAsInt(n) != 0 ? 1 : 0;
    }
    return a;
  }
  private ToIntFunction<int[]> and() {
    ToIntFunction<int[]> a = not();
    while (here("and")) {
      at++;
      ToIntFunction<int[]> l = a, r = not();
      a = n -> l.applyAsInt(n) != 0 && r.applyAsInt(n) != 0 ? 1 : 0;
    }
    return a;
  }
  private ToIntFunction<int[]> not() {
    if (here("not")) {
      opened();
      ToIntFunction<int[]> a = not();
      open--;
      return n -> a.applyAsInt(n) == 0 ? 1 : 0;
    }
    ToIntFunction<int[]> l = sum();
    boolean less = here("<");
    if (!less && !here("=")) return l;
    at++;
    ToIntFunction<int[]> r = sum();
    return less ? n -> l.applyAsInt(n) < r.applyAsInt(n) ? 1 : 0 : n -> l.applyAsInt(n) == r.applyAsInt(n) ? 1 : 0;
  }
  private ToIntFunction<int[]> sum() {
    ToIntFunction<int[]> a = term();
    while (here("+") || here("-")) {
      boolean more = here("+");
      at++;
      ToIntFunction<int[]> l = a, r = term();
      a = more ? n -> l.applyAsInt(n) + r.applyAsInt(n) : n -> l.applyAsInt(n) - r.applyAsInt(n);
    }
    return a;
  }
  private ToIntFunction<int[]> term() {
    ToIntFunction<int[]> a = one();
    while (here("*")) {
      at++;
      ToIntFunction<int[]> l = a, r = one();
      a = n -> l.applyAsInt(n) * r.applyAsInt(n);
    }
    return a;
  }
  private ToIntFunction<int[]> one() {
    String t = tokens.get(at).is();
    if (!t.isEmpty() && t.charAt(0) >= '0' && t.charAt(0) <= '9') {
      at++;
      int v = Integer.parseInt(t);
      return n -> v;
    }
    int name = NAMES.indexOf(t);
    if (name >= 0) {
      at++;
      return n -> n[name];
    }
    if (here("-")) {
      opened();
      ToIntFunction<int[]> a = one();
      open--;
      return n -> -a.applyAsInt(n);
    }
    if (!here("(")) throw fault();
    opened();
    ToIntFunction<int[]> a = e();
    due(")");
    open--;
    return a;
  }
}
