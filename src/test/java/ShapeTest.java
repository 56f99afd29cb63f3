import com.sun.source.tree.ClassTree;
import com.sun.source.tree.CompilationUnitTree;
import com.sun.source.tree.MethodInvocationTree;
import com.sun.source.tree.MethodTree;
import com.sun.source.tree.NewClassTree;
import com.sun.source.tree.Tree;
import com.sun.source.tree.VariableTree;
import com.sun.source.util.JavacTask;
import com.sun.source.util.SourcePositions;
import com.sun.source.util.TreePathScanner;
import com.sun.source.util.Trees;
import java.nio.file.Path;
import java.util.HashMap;
import java.util.LinkedHashSet;
import java.util.List;
import java.util.Map;
import java.util.Set;
import javax.lang.model.element.Element;
import javax.lang.model.element.ElementKind;
import javax.lang.model.element.Modifier;
import javax.tools.JavaCompiler;
import javax.tools.StandardJavaFileManager;
import javax.tools.ToolProvider;

/** LANGUAGE.md, rules 8 and 11, counted in the class as javac reads it: how deep calls go, how long and wide all is. */
public final class ShapeTest extends TreePathScanner<Void, Void> {
  private static final int DEEPEST = 8;
  private static final int MOST_LINES = 60;
  private static final int MOST_PARAMETERS = 7;
  private static final int MOST_CLASSES = 12;
  private static final int MOST_FIELDS = 20;

  /** Of each method (by class and name) those that it calls; what fields start with is a call of the constructor's. */
  private final Map<String, Set<String>> calls = new HashMap<>();
  private final Map<String, Integer> deep = new HashMap<>();
  private final Set<String> open = new LinkedHashSet<>();
  private final Trees trees;
  private final CompilationUnitTree unit;
  private String caller = "";
  private int classes;
  private static int wrong;

  private ShapeTest(Trees trees, CompilationUnitTree unit) {
    this.trees = trees;
    this.unit = unit;
  }

  private static void tell(String what) {
    wrong++;
    System.out.println(what);
  }

  private static String nameOf(Element method) {
    return method.getEnclosingElement().getSimpleName() + "." + method.getSimpleName();
  }

  @Override
  public Void visitClass(ClassTree tree, Void nothing) {
    classes++;
    int fields = 0;
    for (Tree member : tree.getMembers()) {
      if (member instanceof VariableTree field && !field.getModifiers().getFlags().contains(Modifier.STATIC)) fields++;
    }
    if (fields > MOST_FIELDS) tell("rule 11: " + tree.getSimpleName() + " has " + fields + " fields");
    String outer = caller;
    caller = tree.getSimpleName() + ".<init>";
    super.visitClass(tree, nothing);
    caller = outer;
    return null;
  }

  @Override
  public Void visitMethod(MethodTree tree, Void nothing) {
    String outer = caller;
    caller = nameOf(trees.getElement(getCurrentPath()));
    calls.computeIfAbsent(caller, key -> new LinkedHashSet<>());
    if (tree.getParameters().size() > MOST_PARAMETERS) tell("rule 11: more than seven parameters: " + caller);
    SourcePositions at = trees.getSourcePositions();
    long first = unit.getLineMap().getLineNumber(at.getStartPosition(unit, tree));
    long last = unit.getLineMap().getLineNumber(at.getEndPosition(unit, tree));
    if (last - first + 1 > MOST_LINES) tell("rule 11: a long method: " + caller);
    super.visitMethod(tree, nothing);
    caller = outer;
    return null;
  }

  @Override
  public Void visitMethodInvocation(MethodInvocationTree tree, Void nothing) {
    called();
    return super.visitMethodInvocation(tree, nothing);
  }

  @Override
  public Void visitNewClass(NewClassTree tree, Void nothing) {
    called();
    return super.visitNewClass(tree, nothing);
  }

  private void called() {
    Element method = trees.getElement(getCurrentPath());
    boolean known = method != null && (method.getKind() == ElementKind.METHOD || method.getKind() == ElementKind.CONSTRUCTOR);
    if (!known) tell("a call that can't be followed in " + caller);
    else calls.computeIfAbsent(caller, key -> new LinkedHashSet<>()).add(nameOf(method));
  }

  /** How many methods of the file stand open at once from this one on; those of the library count none. */
  private int depthOf(String method) {
    if (!calls.containsKey(method)) return 0;
    if (deep.containsKey(method)) return deep.get(method);
    if (!open.add(method)) {
      tell("rule 8: " + method + " calls itself, by " + open);
      return 0;
    }
    int below = 0;
    for (String next : calls.get(method)) below = Math.max(below, depthOf(next));
    open.remove(method);
    deep.put(method, below + 1);
    return below + 1;
  }

  private void look() {
    scan(unit, null);
    if (classes > MOST_CLASSES) tell("rule 11: " + classes + " classes");
    int deepest = 0;
    for (String method : calls.keySet()) {
      int depth = depthOf(method);
      deepest = Math.max(deepest, depth);
      if (depth > DEEPEST) tell("rule 11: calls go " + depth + " deep from " + method);
    }
    if (deepest < 2) tell("no calls were seen");
    System.out.println(classes + " classes, " + calls.size() + " methods, calls " + deepest + " deep, " + wrong + " faults of the shape");
  }

  public static void main(String[] args) throws Exception {
    JavaCompiler compiler = ToolProvider.getSystemJavaCompiler();
    if (compiler == null) throw new IllegalStateException("there is no javac");
    try (StandardJavaFileManager files = compiler.getStandardFileManager(null, null, null)) {
      JavacTask task = (JavacTask) compiler.getTask(null, files, null, List.of("-proc:none"), null,
          files.getJavaFileObjects(Path.of("src/main/java/FiddleBuzz.java")));
      CompilationUnitTree unit = task.parse().iterator().next();
      task.analyze();
      new ShapeTest(Trees.instance(task), unit).look();
    }
    if (wrong != 0) System.exit(1);
  }
}
