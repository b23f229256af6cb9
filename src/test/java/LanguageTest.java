import com.sun.source.tree.AssertTree;
import com.sun.source.tree.ClassTree;
import com.sun.source.tree.CompilationUnitTree;
import com.sun.source.tree.LambdaExpressionTree;
import com.sun.source.tree.MemberReferenceTree;
import com.sun.source.tree.MethodInvocationTree;
import com.sun.source.tree.MethodTree;
import com.sun.source.tree.NewClassTree;
import com.sun.source.tree.SynchronizedTree;
import com.sun.source.tree.ThrowTree;
import com.sun.source.tree.TryTree;
import com.sun.source.tree.Tree;
import com.sun.source.tree.TypeCastTree;
import com.sun.source.tree.VariableTree;
import com.sun.source.util.JavacTask;
import com.sun.source.util.TreePathScanner;
import com.sun.source.util.Trees;
import java.io.IOException;
import java.nio.file.Path;
import java.util.ArrayDeque;
import java.util.HashSet;
import java.util.List;
import java.util.Map;
import java.util.Set;
import java.util.TreeMap;
import java.util.TreeSet;
import javax.lang.model.element.Element;
import javax.lang.model.element.ElementKind;
import javax.lang.model.element.Modifier;
import javax.lang.model.element.TypeElement;
import javax.tools.JavaCompiler;
import javax.tools.StandardJavaFileManager;
import javax.tools.ToolProvider;

/** The rules of LANGUAGE.md that can be seen in the source's tree. */
public final class LanguageTest {
  private static final Set<String> LIBRARY = Set.of("Object.<init>", "ArrayList.<init>", "ArrayList.add", "ArrayList.get",
      "ArrayList.set", "ArrayList.remove", "ArrayList.size", "ArrayList.isEmpty", "ArrayList.clear", "String.length", "String.charAt",
      "String.isEmpty", "String.equals", "Arrays.copyOf", "Arrays.copyOfRange", "Arrays.fill", "System.arraycopy", "Math.max",
      "Math.min", "Math.abs", "Integer.bitCount", "Integer.lowestOneBit", "Integer.compare");
  private static final Set<String> FACE = Set.of("person", "dies", "holds", "away", "speaker", "way", "of", "feed", "end", "wording",
      "fault", "line", "know", "teach", "has", "summers", "lineOf", "said", "stood", "owed", "byBook", "suit", "suitOf", "pay", "far",
      "tree", "loss", "plan", "book", "wrong", "look");
  private static final Check CHECK = new Check("LanguageTest");

  private final Map<String, Set<String>> calls = new TreeMap<>();
  private final Set<String> publicMethods = new TreeSet<>();
  private int classes = 0;

  public static void main(String[] args) throws IOException {
    JavaCompiler compiler = ToolProvider.getSystemJavaCompiler();
    try (StandardJavaFileManager files = compiler.getStandardFileManager(null, null, null)) {
      JavacTask task = (JavacTask) compiler.getTask(null, files, null, List.of("-proc:none"), null,
          files.getJavaFileObjects(Path.of("src/main/java/LawRock.java")));
      LanguageTest test = new LanguageTest();
      for (CompilationUnitTree unit : task.parse()) {
        task.analyze();
        test.look(unit, Trees.instance(task));
      }
      test.judge();
    }
    CHECK.close();
  }

  private void look(CompilationUnitTree unit, Trees trees) {
    new Looker(unit, trees).scan(unit, null);
  }

  private static void refuse(String what) {
    CHECK.due(what, 1, 0);
  }

  private void judge() {
    CHECK.due("the public methods are those of the face", publicMethods.equals(FACE), true);
    CHECK.due("at most twelve classes", classes <= 12, true);
    for (String name : publicMethods) {
      int depth = depthOf("LawRock." + name, new ArrayDeque<>());
      CHECK.due(name + " goes " + depth + " deep, at most eight", depth <= 8, true);
    }
  }

  /** The longest way of calls in which no method stands twice. */
  private int depthOf(String method, ArrayDeque<String> open) {
    if (open.contains(method)) {
      return 0;
    }
    open.push(method);
    int deepest = 0;
    for (String called : calls.getOrDefault(method, Set.of())) {
      deepest = Math.max(deepest, depthOf(called, open));
    }
    open.pop();
    return deepest + 1;
  }

  private final class Looker extends TreePathScanner<Void, Void> {
    private final CompilationUnitTree unit;
    private final Trees trees;
    private String method = "";

    Looker(CompilationUnitTree unit, Trees trees) {
      this.unit = unit;
      this.trees = trees;
    }

    private long lineOf(long position) {
      return unit.getLineMap().getLineNumber(position);
    }

    private String where(Tree tree) {
      return "line " + lineOf(trees.getSourcePositions().getStartPosition(unit, tree)) + ": ";
    }

    @Override
    public Void visitClass(ClassTree tree, Void none) {
      classes++;
      Element self = trees.getElement(getCurrentPath());
      boolean nested = self.getEnclosingElement().getKind() != ElementKind.PACKAGE;
      if (nested && (!self.getModifiers().contains(Modifier.STATIC) || self.getModifiers().contains(Modifier.PUBLIC))) {
        refuse(where(tree) + "a class inside is static and not public");
      }
      int fields = 0;
      for (Tree member : tree.getMembers()) {
        if (member instanceof VariableTree field && !field.getModifiers().getFlags().contains(Modifier.STATIC)) {
          fields++;
        }
      }
      CHECK.due(self.getSimpleName() + " has at most twenty fields", fields <= 20, true);
      return super.visitClass(tree, none);
    }

    @Override
    public Void visitMethod(MethodTree tree, Void none) {
      Element self = trees.getElement(getCurrentPath());
      TypeElement owner = (TypeElement) self.getEnclosingElement();
      boolean outer = owner.getSimpleName().contentEquals("LawRock");
      Set<Modifier> flags = tree.getModifiers().getFlags();
      String name = tree.getName().toString();
      long first = lineOf(trees.getSourcePositions().getStartPosition(unit, tree));
      long last = lineOf(trees.getSourcePositions().getEndPosition(unit, tree));
      CHECK.due(where(tree) + "a method has at most sixty lines", last - first < 60, true);
      CHECK.due(where(tree) + "a method takes at most seven parameters", tree.getParameters().size() <= 7, true);
      boolean shown = outer && flags.contains(Modifier.PUBLIC);
      if (shown && !name.equals("<init>")) {
        CHECK.due(where(tree) + "a public method stands once", publicMethods.add(name), true);
      }
      CHECK.due(where(tree) + "what is not of the face is private", outer && !shown && !flags.contains(Modifier.PRIVATE), false);
      CHECK.due(where(tree) + "no other method bears a public one's name", !shown && FACE.contains(name), false);
      method = owner.getSimpleName() + "." + name;
      super.visitMethod(tree, none);
      method = "";
      return null;
    }

    @Override
    public Void visitVariable(VariableTree tree, Void none) {
      Set<Modifier> flags = tree.getModifiers().getFlags();
      if (flags.contains(Modifier.STATIC) && !flags.contains(Modifier.FINAL)) {
        refuse(where(tree) + "a static field is final");
      }
      return super.visitVariable(tree, none);
    }

    @Override
    public Void visitMethodInvocation(MethodInvocationTree tree, Void none) {
      note(tree);
      return super.visitMethodInvocation(tree, none);
    }

    @Override
    public Void visitNewClass(NewClassTree tree, Void none) {
      if (tree.getClassBody() != null) {
        refuse(where(tree) + "no anonymous class");
      }
      note(tree);
      return super.visitNewClass(tree, none);
    }

    private void note(Tree tree) {
      Element called = trees.getElement(getCurrentPath());
      TypeElement owner = (TypeElement) called.getEnclosingElement();
      String name = owner.getSimpleName() + "." + called.getSimpleName();
      if (owner.getQualifiedName().toString().startsWith("LawRock")) {
        calls.computeIfAbsent(method, key -> new HashSet<>()).add(name);
      } else {
        CHECK.due(where(tree) + name + " is of the library that may be used", LIBRARY.contains(name), true);
      }
    }

    @Override
    public Void visitThrow(ThrowTree tree, Void none) {
      refuse(where(tree) + "no throw");
      return super.visitThrow(tree, none);
    }

    @Override
    public Void visitTry(TryTree tree, Void none) {
      refuse(where(tree) + "no try");
      return super.visitTry(tree, none);
    }

    @Override
    public Void visitSynchronized(SynchronizedTree tree, Void none) {
      refuse(where(tree) + "no synchronized");
      return super.visitSynchronized(tree, none);
    }

    @Override
    public Void visitAssert(AssertTree tree, Void none) {
      refuse(where(tree) + "no assert");
      return super.visitAssert(tree, none);
    }

    @Override
    public Void visitLambdaExpression(LambdaExpressionTree tree, Void none) {
      refuse(where(tree) + "no lambda");
      return super.visitLambdaExpression(tree, none);
    }

    @Override
    public Void visitMemberReference(MemberReferenceTree tree, Void none) {
      refuse(where(tree) + "no method reference");
      return super.visitMemberReference(tree, none);
    }

    @Override
    public Void visitTypeCast(TypeCastTree tree, Void none) {
      if (!(tree.getType().getKind() == Tree.Kind.PRIMITIVE_TYPE)) {
        refuse(where(tree) + "no cast but of numbers");
      }
      return super.visitTypeCast(tree, none);
    }
  }
}
