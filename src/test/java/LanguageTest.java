import com.sun.source.tree.*;
import com.sun.source.util.JavacTask;
import com.sun.source.util.TreePathScanner;
import com.sun.source.util.Trees;
import java.nio.file.Files;
import java.nio.file.Path;
import java.util.Arrays;
import java.util.HashMap;
import java.util.HashSet;
import java.util.List;
import java.util.Map;
import java.util.Set;
import java.util.TreeMap;
import java.util.TreeSet;
import javax.lang.model.element.Element;
import javax.lang.model.element.ElementKind;
import javax.lang.model.element.Modifier;
import javax.tools.JavaCompiler;
import javax.tools.StandardJavaFileManager;
import javax.tools.ToolProvider;

/** The rules of LANGUAGE.md that can be seen in the program's source; each is named by its number. */
public final class LanguageTest {
  private static final Due due = new Due();
  private static final Path SOURCE = Path.of("src/main/java/RoundTheModel.java");
  private static final Set<String> LIBRARY = new HashSet<>(Arrays.asList(
    "String.length", "String.charAt", "String.isEmpty", "Arrays.copyOf", "Arrays.copyOfRange", "Arrays.fill",
    "System.arraycopy", "Math.max", "Math.min", "Math.abs", "Math.floorMod", "Math.floorDiv", "Integer.bitCount",
    "Object.<init>"));
  /** Whom each method calls, the library's with them. */
  private static final Map<String, Set<String>> calls = new TreeMap<>();
  private static final Set<String> starts = new TreeSet<>();

  public static void main(String[] args) throws Exception {
    JavaCompiler compiler = ToolProvider.getSystemJavaCompiler();
    try (StandardJavaFileManager files = compiler.getStandardFileManager(null, null, null)) {
      JavacTask task = (JavacTask) compiler.getTask(null, files, null, List.of("-proc:none"), null, files.getJavaFileObjects(SOURCE));
      CompilationUnitTree unit = task.parse().iterator().next();
      task.analyze();
      due.is("rule 1: classes of the file", unit.getTypeDecls().size(), 1);
      due.is("rule 1: no package", unit.getPackageName() == null ? 1 : 0, 1);
      new Rules(Trees.instance(task), unit).scan(unit, null);
    }
    for (String start : starts) {
      int depth = depthFrom(start, new HashMap<>());
      due.is("rule 11: " + start + " goes " + depth + " deep", depth > 8 ? 1 : 0, 0);
    }
    due.is("rule 11: every method is reached", reached().containsAll(calls.keySet()) ? 1 : 0, 1);
    signs(Files.readString(SOURCE));
    due.end();
  }

  /** How many calls stand open at once at most; methods that call one another in a circle count as one. */
  private static int depthFrom(String method, Map<String, Integer> known) {
    if (known.containsKey(method)) return known.get(method);
    Set<String> circle = circleOf(method);
    int deepest = 0;
    for (String one : circle)
      for (String next : calls.getOrDefault(one, Set.of()))
        if (!circle.contains(next)) deepest = Math.max(deepest, depthFrom(next, known));
    for (String one : circle) known.put(one, deepest + 1);
    return deepest + 1;
  }

  /** The methods that a method calls and that call it again, and itself. */
  private static Set<String> circleOf(String method) {
    Set<String> circle = new TreeSet<>(Set.of(method));
    for (String other : reachedFrom(method)) if (reachedFrom(other).contains(method)) circle.add(other);
    return circle;
  }

  private static Set<String> reachedFrom(String method) {
    Set<String> found = new TreeSet<>(calls.getOrDefault(method, Set.of()));
    for (boolean more = true; more; ) {
      Set<String> wider = new TreeSet<>(found);
      for (String one : found) wider.addAll(calls.getOrDefault(one, Set.of()));
      more = wider.size() > found.size();
      found = wider;
    }
    return found;
  }

  private static Set<String> reached() {
    Set<String> all = new TreeSet<>(starts);
    for (String start : starts) all.addAll(reachedFrom(start));
    return all;
  }

  private static void signs(String source) {
    for (String line : source.split("\n"))
      if (line.startsWith("import ")) due.is("rule 4: " + line, line.equals("import java.util.Arrays;") ? 1 : 0, 1);
    for (int i = 0; i < source.length(); i++)
      if (source.charAt(i) > 126) due.is("rule 4: a sign above 126 at " + i, source.charAt(i), 0);
  }

  private static final class Rules extends TreePathScanner<Void, Void> {
    /** while and do are left out by choice, as this test could not see their end (rule 9). */
    private static final Set<Tree.Kind> NEVER = Set.of(
      Tree.Kind.LAMBDA_EXPRESSION, Tree.Kind.MEMBER_REFERENCE, Tree.Kind.THROW, Tree.Kind.TRY, Tree.Kind.CATCH,
      Tree.Kind.SYNCHRONIZED, Tree.Kind.ASSERT, Tree.Kind.ANNOTATION, Tree.Kind.WHILE_LOOP, Tree.Kind.DO_WHILE_LOOP);
    private final Trees trees;
    private final CompilationUnitTree unit;
    private String method = "";
    private int classes = 0;

    Rules(Trees trees, CompilationUnitTree unit) {
      this.trees = trees;
      this.unit = unit;
    }

    private Element here() { return trees.getElement(getCurrentPath()); }

    private long line(long place) { return unit.getLineMap().getLineNumber(place); }

    private String at(Tree tree) { return " in line " + line(trees.getSourcePositions().getStartPosition(unit, tree)); }

    @Override public Void scan(Tree tree, Void none) {
      if (tree != null && NEVER.contains(tree.getKind())) due.is("rules 2, 6, 9: " + tree.getKind() + at(tree), 1, 0);
      return super.scan(tree, none);
    }

    @Override public Void visitClass(ClassTree tree, Void none) {
      classes++;
      due.is("rule 11: class " + classes + at(tree), classes > 13 ? 1 : 0, 0);
      Element c = here();
      boolean isOuter = c.getEnclosingElement().getKind() == ElementKind.PACKAGE;
      if (!isOuter) {
        due.is("rule 2: " + c + " is static", c.getModifiers().contains(Modifier.STATIC) ? 1 : 0, 1);
        due.is("rule 2: " + c + " is a member", c.getEnclosingElement().getKind().isClass() ? 1 : 0, 1);
      }
      int held = 0;
      for (Element e : c.getEnclosedElements()) {
        if (e.getKind() != ElementKind.FIELD) continue;
        boolean isStatic = e.getModifiers().contains(Modifier.STATIC);
        if (!isStatic) held++;
        if (isStatic) due.is("rule 5: " + e + " is final", e.getModifiers().contains(Modifier.FINAL) ? 1 : 0, 1);
      }
      due.is("rule 11: fields of " + c, held > 20 ? 1 : 0, 0);
      String outer = method;
      method = nameOf(c) + ".<init>";
      calls.computeIfAbsent(method, k -> new TreeSet<>());
      if (isOuter) starts.add(method);
      super.visitClass(tree, none);
      method = outer;
      return null;
    }

    @Override public Void visitBlock(BlockTree tree, Void none) {
      due.is("rule 5: a static block" + at(tree), tree.isStatic() ? 1 : 0, 0);
      return super.visitBlock(tree, none);
    }

    @Override public Void visitMethod(MethodTree tree, Void none) {
      String outer = method;
      Element m = here();
      method = nameOf(m.getEnclosingElement()) + "." + m.getSimpleName();
      calls.computeIfAbsent(method, k -> new TreeSet<>());
      if (m.getModifiers().contains(Modifier.PUBLIC)) starts.add(method);
      due.is("rule 11: parameters of " + method, tree.getParameters().size() > 7 ? 1 : 0, 0);
      long end = trees.getSourcePositions().getEndPosition(unit, tree);
      long lines = end < 0 ? 0 : line(end) - line(trees.getSourcePositions().getStartPosition(unit, tree)) + 1;
      due.is("rule 11: lines of " + method, lines > 60 ? lines : 0, 0);
      super.visitMethod(tree, none);
      method = outer;
      return null;
    }

    @Override public Void visitMethodInvocation(MethodInvocationTree tree, Void none) {
      called(here(), tree);
      return super.visitMethodInvocation(tree, none);
    }

    @Override public Void visitNewClass(NewClassTree tree, Void none) {
      called(here(), tree);
      return super.visitNewClass(tree, none);
    }

    private void called(Element callee, Tree tree) {
      String name = nameOf(callee.getEnclosingElement()) + "." + callee.getSimpleName();
      calls.computeIfAbsent(method, k -> new TreeSet<>()).add(name);
      boolean isOurs = callee.getEnclosingElement().toString().startsWith("RoundTheModel");
      if (!isOurs) due.is("rule 4: " + name + at(tree), LIBRARY.contains(name) ? 1 : 0, 1);
    }

    private static String nameOf(Element c) { return c.getSimpleName().toString(); }

    @Override public Void visitForLoop(ForLoopTree tree, Void none) {
      String till = String.valueOf(tree.getCondition());
      due.is("rule 9: a bound" + at(tree), till.matches(".*\\w+ <=? [\\w.]+.*") ? 1 : 0, 1);
      due.is("rule 9: a counter" + at(tree), tree.getUpdate().size(), 1);
      return super.visitForLoop(tree, none);
    }

    /** The divisors that are constants, and the two that the program looks at first; who adds one says so here. */
    @Override public Void visitBinary(BinaryTree tree, Void none) {
      if (tree.getKind() == Tree.Kind.DIVIDE || tree.getKind() == Tree.Kind.REMAINDER) {
        String by = tree.getRightOperand().toString();
        due.is("rule 7: a division by " + by + at(tree), by.matches("\\d+|EASELS|rest|common") ? 1 : 0, 1);
      }
      if (tree.getKind() == Tree.Kind.PLUS)
        due.is("rule 10: no texts are joined by +" + at(tree), tree.toString().contains("\"") ? 1 : 0, 0);
      return super.visitBinary(tree, none);
    }
  }
}
