import java.lang.reflect.Method;
import java.lang.reflect.Modifier;
import java.net.URL;
import java.net.URLClassLoader;
import java.nio.file.Files;
import java.nio.file.Path;
import java.util.ArrayList;
import java.util.Comparator;
import java.util.List;
import java.util.regex.Matcher;
import java.util.regex.Pattern;
import java.util.stream.Stream;
import javax.tools.JavaCompiler;
import javax.tools.ToolProvider;

/** README.md is true: its examples compile and answer as it says, and its table has every call of the face. */
public final class ReadmeTest {
  private static final Due due = new Due();
  private static final Pattern BLOCK = Pattern.compile("(?s)```java\n(.*?)```");
  private static final Pattern ANSWERED = Pattern.compile("(?:int (\\w+) = )?(x\\.\\w+\\(.*\\));\\s*// (-?\\d+)\\b.*");

  public static void main(String[] args) throws Exception {
    String readme = Files.readString(Path.of("README.md"));
    tableHasEveryCall(readme);
    List<String> blocks = new ArrayList<>();
    for (Matcher m = BLOCK.matcher(readme); m.find(); ) blocks.add(m.group(1));
    due.is("README.md has examples", blocks.isEmpty() ? 0 : 1, 1);
    answerAsSaid(blocks);
    due.end();
  }

  private static void tableHasEveryCall(String readme) {
    for (Method m : RoundTheModel.class.getDeclaredMethods()) {
      if (!Modifier.isPublic(m.getModifiers())) continue;
      Matcher row = Pattern.compile("(?m)^\\|[^|\n]*`" + m.getName() + "\\(([^)]*)\\)`").matcher(readme);
      boolean stands = row.find();
      due.is(m.getName() + " stands in the table", stands ? 1 : 0, 1);
      if (!stands) continue;
      int parameters = row.group(1).isEmpty() ? 0 : row.group(1).split(",").length;
      due.is(m.getName() + " has so many parameters in the table", parameters, m.getParameterCount());
    }
  }

  private static void answerAsSaid(List<String> blocks) throws Exception {
    Path dir = Files.createTempDirectory("readme");
    try {
      StringBuilder source = new StringBuilder("public final class ReadmeExamples {\n");
      for (int i = 0; i < blocks.size(); i++) {
        source.append("  public static void example" + i + "(java.util.List<Object[]> heard) {\n");
        for (String line : blocks.get(i).split("\n")) source.append("    " + asked(line) + "\n");
        source.append("  }\n");
      }
      source.append("  public static void all(java.util.List<Object[]> heard) {\n");
      for (int i = 0; i < blocks.size(); i++) source.append("    example" + i + "(heard);\n");
      source.append("  }\n}\n");
      Path file = dir.resolve("ReadmeExamples.java");
      Files.writeString(file, source);
      JavaCompiler compiler = ToolProvider.getSystemJavaCompiler();
      String classes = System.getProperty("java.class.path");
      int failed = compiler.run(null, null, null, "-cp", classes, "-d", dir.toString(), file.toString());
      due.is("README.md's examples compile", failed, 0);
      if (failed == 0) run(dir);
    } finally {
      clear(dir);
    }
  }

  /** A line with an answer behind // becomes one that asks for it; others stay. */
  private static String asked(String line) {
    Matcher m = ANSWERED.matcher(line);
    if (!m.matches()) return line;
    String call = m.group(2), name = m.group(1);
    String asks = "heard.add(new Object[] {\"" + call + "\", (long) " + (name == null ? call : name) + ", " + m.group(3) + "L});";
    return name == null ? asks : "int " + name + " = " + call + "; " + asks;
  }

  private static void run(Path dir) throws Exception {
    try (URLClassLoader loader = new URLClassLoader(new URL[] {dir.toUri().toURL()}, ReadmeTest.class.getClassLoader())) {
      List<Object[]> heard = new ArrayList<>();
      loader.loadClass("ReadmeExamples").getMethod("all", List.class).invoke(null, heard);
      due.is("README.md tells answers", heard.isEmpty() ? 0 : 1, 1);
      for (Object[] one : heard) due.is("README.md: " + one[0], (Long) one[1], (Long) one[2]);
    }
  }

  private static void clear(Path dir) throws Exception {
    try (Stream<Path> files = Files.walk(dir)) {
      for (Path p : files.sorted(Comparator.reverseOrder()).toArray(Path[]::new)) Files.delete(p);
    }
  }
}
