import com.sun.source.tree.AssertTree;
import com.sun.source.tree.BinaryTree;
import com.sun.source.tree.CatchTree;
import com.sun.source.tree.ClassTree;
import com.sun.source.tree.CompilationUnitTree;
import com.sun.source.tree.ForLoopTree;
import com.sun.source.tree.LambdaExpressionTree;
import com.sun.source.tree.LineMap;
import com.sun.source.tree.LiteralTree;
import com.sun.source.tree.MemberReferenceTree;
import com.sun.source.tree.MethodInvocationTree;
import com.sun.source.tree.MethodTree;
import com.sun.source.tree.NewClassTree;
import com.sun.source.tree.SynchronizedTree;
import com.sun.source.tree.ThrowTree;
import com.sun.source.tree.Tree;
import com.sun.source.tree.TryTree;
import com.sun.source.tree.TypeCastTree;
import com.sun.source.tree.VariableTree;
import com.sun.source.tree.WhileLoopTree;
import com.sun.source.util.JavacTask;
import com.sun.source.util.SourcePositions;
import com.sun.source.util.TreePath;
import com.sun.source.util.TreePathScanner;
import com.sun.source.util.Trees;
import java.nio.file.Path;
import java.util.ArrayDeque;
import java.util.Deque;
import java.util.LinkedHashMap;
import java.util.LinkedHashSet;
import java.util.List;
import java.util.Map;
import java.util.Set;
import javax.lang.model.element.Element;
import javax.lang.model.element.ElementKind;
import javax.lang.model.element.ExecutableElement;
import javax.lang.model.element.Modifier;
import javax.lang.model.element.VariableElement;
import javax.tools.JavaCompiler;
import javax.tools.StandardJavaFileManager;
import javax.tools.ToolProvider;

/**
 * The rules of LANGUAGE.md that can be seen only in the program's tree: how deep calls go, that none
 * comes back to itself, how long methods are, what is never written. The rules' numbers stand with them.
 */
public final class RulesTest extends TreePathScanner<Void, Void> {
  private static final String MAIN = "src/main/java/CountedTokens.java";
  private static final int DEEPEST = 8;
  private static final int LONGEST = 60;

  private static int wrong = 0;

  private final Trees trees;
  private final CompilationUnitTree unit;
  private final Map<Element, Set<Element>> calls = new LinkedHashMap<>();
  private Element within;
  private int classes = 0;

  private RulesTest(JavacTask task, CompilationUnitTree unit) {
    this.trees = Trees.instance(task);
    this.unit = unit;
  }

  private static void must(int rule, boolean holds, String what) {
    if (!holds) {
      wrong++;
      System.out.println("rule " + rule + ": " + what);
    }
  }

  private String at(Tree tree) {
    LineMap lines = unit.getLineMap();
    return "line " + lines.getLineNumber(trees.getSourcePositions().getStartPosition(unit, tree));
  }

  private static String name(Element method) { return method.getEnclosingElement().getSimpleName() + "." + method.getSimpleName(); }

  // ---- what is collected and what is never written

  @Override public Void visitClass(ClassTree tree, Void none) {
    classes++;
    int fields = 0;
    for (Tree member : tree.getMembers()) {
      if (!(member instanceof VariableTree field)) continue;
      boolean isStatic = field.getModifiers().getFlags().contains(Modifier.STATIC);
      fields += isStatic ? 0 : 1;
      must(5, !isStatic || field.getModifiers().getFlags().contains(Modifier.FINAL), "a static field that is not final, " + at(field));
    }
    must(11, fields <= 20, tree.getSimpleName() + " has " + fields + " fields");
    return super.visitClass(tree, none);
  }

  @Override public Void visitMethod(MethodTree tree, Void none) {
    Element before = within;
    within = trees.getElement(getCurrentPath());
    calls.computeIfAbsent(within, k -> new LinkedHashSet<>());
    SourcePositions positions = trees.getSourcePositions();
    LineMap lines = unit.getLineMap();
    long first = lines.getLineNumber(positions.getStartPosition(unit, tree));
    // a constructor that javac put there has no end in the file
    long end = positions.getEndPosition(unit, tree);
    long last = end < 0 ? first : lines.getLineNumber(end);
    must(11, last - first < LONGEST, name(within) + " has " + (last - first + 1) + " lines");
    must(11, tree.getParameters().size() <= 7, name(within) + " takes " + tree.getParameters().size());
    super.visitMethod(tree, none);
    within = before;
    return null;
  }

  private void called(Element callee) {
    if (within == null || !(callee instanceof ExecutableElement)) return;
    calls.get(within).add(callee);
  }

  @Override public Void visitMethodInvocation(MethodInvocationTree tree, Void none) {
    called(trees.getElement(new TreePath(getCurrentPath(), tree.getMethodSelect())));
    return super.visitMethodInvocation(tree, none);
  }

  @Override public Void visitNewClass(NewClassTree tree, Void none) {
    called(trees.getElement(getCurrentPath()));
    must(2, tree.getClassBody() == null, "an anonymous class, " + at(tree));
    return super.visitNewClass(tree, none);
  }

  private Void never(int rule, Tree tree) {
    must(rule, false, tree.getKind() + ", " + at(tree));
    return null;
  }

  @Override public Void visitThrow(ThrowTree tree, Void none) { return never(6, tree); }
  @Override public Void visitTry(TryTree tree, Void none) { return never(6, tree); }
  @Override public Void visitCatch(CatchTree tree, Void none) { return never(6, tree); }
  @Override public Void visitSynchronized(SynchronizedTree tree, Void none) { return never(6, tree); }
  @Override public Void visitAssert(AssertTree tree, Void none) { return never(6, tree); }
  @Override public Void visitTypeCast(TypeCastTree tree, Void none) { return never(6, tree); }
  @Override public Void visitLambdaExpression(LambdaExpressionTree tree, Void none) { return never(2, tree); }
  @Override public Void visitMemberReference(MemberReferenceTree tree, Void none) { return never(2, tree); }

  @Override public Void visitBinary(BinaryTree tree, Void none) {
    if (tree.getKind() == Tree.Kind.DIVIDE || tree.getKind() == Tree.Kind.REMAINDER) {
      must(7, isNeverZero(new TreePath(getCurrentPath(), tree.getRightOperand())), "a divisor that could be 0, " + at(tree));
    }
    return super.visitBinary(tree, none);
  }

  /** A constant other than 0, or what the line itself has tested (m > 0 ? .. % m). */
  private boolean isNeverZero(TreePath divisor) {
    Tree tree = divisor.getLeaf();
    if (tree.getKind() == Tree.Kind.PARENTHESIZED) return true;
    if (tree instanceof LiteralTree number) return !Integer.valueOf(0).equals(number.getValue());
    if (trees.getElement(divisor) instanceof VariableElement v && v.getConstantValue() != null) return !Integer.valueOf(0).equals(v.getConstantValue());
    for (TreePath up = divisor; up != null; up = up.getParentPath()) {
      if (up.getLeaf().getKind() == Tree.Kind.CONDITIONAL_EXPRESSION && up.getLeaf().toString().startsWith("m > 0")) return true;
      if (up.getLeaf().toString().startsWith("(m > 0")) return true;
    }
    return false;
  }

  @Override public Void visitForLoop(ForLoopTree tree, Void none) {
    must(9, tree.getCondition() != null && tree.getUpdate().size() == 1, "a loop whose end can't be seen, " + at(tree));
    return super.visitForLoop(tree, none);
  }

  @Override public Void visitWhileLoop(WhileLoopTree tree, Void none) {
    must(9, tree.getCondition().toString().contains("&&"), "a loop whose end can't be seen, " + at(tree));
    return super.visitWhileLoop(tree, none);
  }

  // ---- how deep calls go

  /** How many calls stand open at once from this one on, itself and one of the library too. */
  private int depth(Element method, Deque<Element> open, Map<Element, Integer> known) {
    if (known.containsKey(method)) return known.get(method);
    if (open.contains(method)) {
      must(8, false, name(method) + " comes back to itself");
      return 0;
    }
    open.push(method);
    int most = 0;
    for (Element callee : calls.getOrDefault(method, Set.of())) most = Math.max(most, depth(callee, open, known));
    open.pop();
    known.put(method, most + 1);
    return most + 1;
  }

  private String chain(Element method, Map<Element, Integer> known) {
    StringBuilder s = new StringBuilder(name(method));
    for (Element callee : calls.getOrDefault(method, Set.of())) {
      if (known.get(callee) == known.get(method) - 1) return s.append(" > ").append(chain(callee, known)).toString();
    }
    return s.toString();
  }

  private void lookAtCalls() {
    Map<Element, Integer> known = new LinkedHashMap<>();
    Set<Element> used = new LinkedHashSet<>();
    calls.values().forEach(used::addAll);
    Element deepest = null;
    for (Element method : calls.keySet()) {
      int deep = depth(method, new ArrayDeque<>(), known);
      must(11, deep <= DEEPEST, deep + " deep: " + chain(method, known));
      if (deepest == null || deep > known.get(deepest)) deepest = method;
      boolean called = used.contains(method) || method.getModifiers().contains(Modifier.PUBLIC) || method.getKind() == ElementKind.CONSTRUCTOR;
      must(11, called, name(method) + " is called by nobody");
    }
    must(11, calls.size() > 100, "the methods were found");
    System.out.println("the deepest of " + calls.size() + " methods, " + known.get(deepest) + " deep: " + chain(deepest, known));
  }

  public static void main(String[] args) throws Exception {
    JavaCompiler compiler = ToolProvider.getSystemJavaCompiler();
    try (StandardJavaFileManager files = compiler.getStandardFileManager(null, null, null)) {
      JavacTask task = (JavacTask) compiler.getTask(null, files, null, List.of("-proc:none"), null, files.getJavaFileObjects(Path.of(MAIN)));
      CompilationUnitTree unit = task.parse().iterator().next();
      task.analyze();
      RulesTest test = new RulesTest(task, unit);
      test.scan(unit, null);
      test.lookAtCalls();
      must(11, test.classes <= 12, test.classes + " classes");
    }
    System.out.println("RulesTest: " + wrong + " wrong");
    if (wrong != 0) System.exit(1);
  }
}
