import java.lang.reflect.Field;
import java.lang.reflect.Member;
import java.lang.reflect.Method;
import java.lang.reflect.Modifier;
import java.nio.file.Files;
import java.nio.file.Path;
import java.util.Arrays;
import java.util.HashSet;
import java.util.Set;
import java.util.TreeSet;

/** The face of the document, and those rules of LANGUAGE.md that can be seen from the class and its words. */
public final class FaceTest {
  private static final Due due = new Due();
  private static final String[] FACE = {
    "int set(int, int, int)", "int painter(int, int, int)", "int told(int, int)", "int feed(int)", "int text()",
    "int force(int)", "int pose(int)", "int run(int, int, int)", "int ring(int)", "long mean(int, int, int)",
    "int best(int, int)", "int seat(int, int)", "int change(int)", "int round(int, int)",
    "int tells(int, int, int, int)", "int film(int, int, int, int)", "int drawn(int, int)",
    "long chance(int, int, int, int)", "int image()", "int back()", "int count(int)", "int sheet(int, int, int)",
    "int cell(int, int, int)", "int copy(int, int, int, int, int)", "int painters(int, int, int, int)",
    "int taken(int, int)"
  };

  public static void main(String[] args) throws Exception {
    Class<?> c = RoundTheModel.class;
    due.is("public and final", c.getModifiers() & (Modifier.PUBLIC | Modifier.FINAL), Modifier.PUBLIC | Modifier.FINAL);
    members(c);
    nested(c);
    words(Files.readString(Path.of("src/main/java/RoundTheModel.java")));
    due.end();
  }

  private static boolean isPrivate(Member m) { return Modifier.isPrivate(m.getModifiers()); }

  private static void members(Class<?> c) {
    Set<String> open = new TreeSet<>();
    Set<String> names = new HashSet<>();
    for (Method m : c.getDeclaredMethods()) {
      if (isPrivate(m)) continue;
      names.add(m.getName());
      String types = Arrays.stream(m.getParameterTypes()).map(Class::getName).reduce((a, b) -> a + ", " + b).orElse("");
      open.add(m.getReturnType().getName() + " " + m.getName() + "(" + types + ")");
      due.is(m + " is public", m.getModifiers(), Modifier.PUBLIC);
    }
    due.is("the methods " + open, open.equals(new TreeSet<>(Arrays.asList(FACE))) ? 1 : 0, 1);
    due.is("one constructor", c.getDeclaredConstructors().length, 1);
    Set<String> fields = new TreeSet<>();
    for (Field f : c.getDeclaredFields()) if (!isPrivate(f)) fields.add(f.getName());
    due.is("the constants " + fields, fields.equals(new TreeSet<>(Set.of("NONE", "BAD", "STATE", "FULL", "NO"))) ? 1 : 0, 1);
    bearsNoOpenName(c, names);
    for (Class<?> n : c.getDeclaredClasses()) bearsNoOpenName(n, names);
  }

  private static void bearsNoOpenName(Class<?> c, Set<String> names) {
    for (Method m : c.getDeclaredMethods())
      if (isPrivate(m) || c != RoundTheModel.class) due.is(m + " bears no open name", names.contains(m.getName()) ? 1 : 0, 0);
    for (Method m : c.getDeclaredMethods()) due.is(m + " has too many parameters", m.getParameterCount() > 7 ? 1 : 0, 0);
  }

  private static void nested(Class<?> c) {
    due.is("classes", c.getDeclaredClasses().length <= 12 ? 1 : 0, 1);
    for (Class<?> n : c.getDeclaredClasses()) {
      due.is(n + " is static", Modifier.isStatic(n.getModifiers()) ? 1 : 0, 1);
      int held = 0;
      for (Field f : n.getDeclaredFields()) if (!Modifier.isStatic(f.getModifiers())) held++;
      due.is(n + " has too many fields", held > 20 ? 1 : 0, 0);
    }
    for (Field f : c.getDeclaredFields())
      if (Modifier.isStatic(f.getModifiers())) due.is(f + " is final", Modifier.isFinal(f.getModifiers()) ? 1 : 0, 1);
  }

  private static void words(String source) {
    String bare = source.replaceAll("(?s)/\\*.*?\\*/", " ").replaceAll("//[^\n]*", " ").replaceAll("\"[^\"\n]*\"", "\"\"");
    for (String word : new String[] {"throw", "throws", "try", "catch", "finally", "synchronized", "assert", "package",
        "hashCode", "toString", "Random", "Thread", "Object", "Exception", "volatile", "native", "transient"})
      due.is("the word " + word, bare.matches("(?s).*\\b" + word + "\\b.*") ? 1 : 0, 0);
    for (String sign : new String[] {"->", "::", "@", "static {", "while (true)", "for (;;)", "Exact("})
      due.is("the sign " + sign, bare.contains(sign) ? 1 : 0, 0);
  }
}
