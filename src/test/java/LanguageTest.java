import com.sun.source.tree.*;
import com.sun.source.util.JavacTask;
import com.sun.source.util.SourcePositions;
import com.sun.source.util.TreePath;
import com.sun.source.util.TreePathScanner;
import com.sun.source.util.Trees;
import java.nio.file.Path;
import java.util.ArrayList;
import java.util.EnumSet;
import java.util.HashMap;
import java.util.HashSet;
import java.util.List;
import java.util.Map;
import java.util.Set;
import javax.lang.model.element.Element;
import javax.lang.model.element.Modifier;
import javax.tools.JavaCompiler;
import javax.tools.StandardJavaFileManager;
import javax.tools.ToolProvider;

/** Looks at the program's own text: what LANGUAGE.md leaves out must not stand in it. */
public final class LanguageTest {
  private static final Path PROGRAM = Path.of("src/main/java/BackFromBreakfast.java");
  private static final Set<String> LIBRARY = Set.of("Math.abs", "Math.max", "Math.min", "Integer.bitCount");
  private static final Set<Tree.Kind> LEFT_OUT = EnumSet.of(
      Tree.Kind.THROW, Tree.Kind.TRY, Tree.Kind.CATCH, Tree.Kind.SYNCHRONIZED, Tree.Kind.ASSERT,
      Tree.Kind.LAMBDA_EXPRESSION, Tree.Kind.MEMBER_REFERENCE, Tree.Kind.IMPORT, Tree.Kind.PACKAGE,
      Tree.Kind.TYPE_CAST, Tree.Kind.INSTANCE_OF, Tree.Kind.ANNOTATION, Tree.Kind.STRING_LITERAL,
      Tree.Kind.DOUBLE_LITERAL, Tree.Kind.FLOAT_LITERAL, Tree.Kind.SWITCH_EXPRESSION);

  private final Map<Element, Set<Element>> calls = new HashMap<>();
  private final Set<String> publicNames = new HashSet<>();
  private final List<String> otherNames = new ArrayList<>();
  private int classes = 0;

  public static void main(String[] args) throws Exception {
    JavaCompiler compiler = ToolProvider.getSystemJavaCompiler();
    try (StandardJavaFileManager files = compiler.getStandardFileManager(null, null, null)) {
      JavacTask task = (JavacTask) compiler.getTask(
          null, files, null, List.of("-proc:none"), null, files.getJavaFileObjects(PROGRAM));
      CompilationUnitTree unit = task.parse().iterator().next();
      task.analyze();
      new LanguageTest().look(unit, Trees.instance(task));
    }
    Check.end("LanguageTest");
  }

  private void look(CompilationUnitTree unit, Trees trees) {
    new Look(unit, trees).scan(unit, null);
    Check.holds("classes: " + classes, classes <= 12);
    for (String name : otherNames) {
      Check.holds("no other method bears the name of a public one: " + name, !publicNames.contains(name));
    }
    for (Element method : calls.keySet()) {
      Check.holds("depth of the calls of " + method, depth(method, 0) <= 8);
    }
  }

  private int depth(Element method, int open) {
    if (open > 20) {
      return 1000;
    }
    int deepest = 0;
    for (Element called : calls.getOrDefault(method, Set.of())) {
      deepest = Math.max(deepest, depth(called, open + 1));
    }
    return deepest + 1;
  }

  private final class Look extends TreePathScanner<Void, Void> {
    private final CompilationUnitTree unit;
    private final Trees trees;
    private Element method = null;
    private boolean inConstructor = false;

    Look(CompilationUnitTree unit, Trees trees) {
      this.unit = unit;
      this.trees = trees;
    }

    private long line(long position) {
      return unit.getLineMap().getLineNumber(position);
    }

    private String place(Tree tree) {
      return " (line " + line(trees.getSourcePositions().getStartPosition(unit, tree)) + ")";
    }

    @Override
    public Void scan(Tree tree, Void none) {
      if (tree != null) {
        Check.holds("left out: " + tree.getKind() + place(tree), !LEFT_OUT.contains(tree.getKind()));
      }
      return super.scan(tree, none);
    }

    @Override
    public Void visitClass(ClassTree tree, Void none) {
      classes++;
      boolean outer = getCurrentPath().getParentPath().getLeaf() == unit;
      Set<Modifier> modifiers = tree.getModifiers().getFlags();
      Check.holds("static " + tree.getSimpleName(), outer || modifiers.contains(Modifier.STATIC));
      Check.holds("named" + place(tree), tree.getSimpleName().length() > 0);
      int fields = 0;
      for (Tree member : tree.getMembers()) {
        Check.holds("no block of its own" + place(member), member.getKind() != Tree.Kind.BLOCK);
        if (member instanceof VariableTree field) {
          Set<Modifier> flags = field.getModifiers().getFlags();
          fields += flags.contains(Modifier.STATIC) ? 0 : 1;
          Check.holds("a static field is final: " + field.getName(),
              !flags.contains(Modifier.STATIC) || flags.contains(Modifier.FINAL));
        }
      }
      Check.holds("fields of " + tree.getSimpleName() + ": " + fields, fields <= 20);
      return super.visitClass(tree, none);
    }

    @Override
    public Void visitMethod(MethodTree tree, Void none) {
      String name = tree.getName().toString();
      boolean outer = getCurrentPath().getParentPath().getParentPath().getLeaf() == unit;
      boolean isPublic = outer && tree.getModifiers().getFlags().contains(Modifier.PUBLIC);
      inConstructor = name.equals("<init>");
      if (isPublic) {
        publicNames.add(name);
      } else if (!inConstructor) {
        otherNames.add(name);
      }
      SourcePositions positions = trees.getSourcePositions();
      long lines = line(positions.getEndPosition(unit, tree)) - line(positions.getStartPosition(unit, tree)) + 1;
      Check.holds("lines of " + name + ": " + lines, lines <= 60);
      Check.holds("parameters of " + name, tree.getParameters().size() <= 7);
      method = trees.getElement(getCurrentPath());
      calls.put(method, new HashSet<>());
      super.visitMethod(tree, none);
      inConstructor = false;
      method = null;
      return null;
    }

    @Override
    public Void visitMethodInvocation(MethodInvocationTree tree, Void none) {
      Element called = trees.getElement(new TreePath(getCurrentPath(), tree.getMethodSelect()));
      String text = tree.getMethodSelect().toString();
      if (text.startsWith("Math.") || text.startsWith("Integer.") || text.startsWith("Long.")) {
        Check.holds("of the library: " + text, LIBRARY.contains(text));
      } else if (!text.equals("super")) {
        calls.get(method).add(called);
      }
      return super.visitMethodInvocation(tree, none);
    }

    @Override
    public Void visitNewClass(NewClassTree tree, Void none) {
      Check.holds("objects are made in constructors alone" + place(tree), inConstructor);
      Check.holds("no class without a name" + place(tree), tree.getClassBody() == null);
      return super.visitNewClass(tree, none);
    }

    @Override
    public Void visitNewArray(NewArrayTree tree, Void none) {
      Check.holds("arrays are made in constructors alone" + place(tree), inConstructor);
      return super.visitNewArray(tree, none);
    }
  }
}
