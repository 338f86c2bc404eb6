import com.sun.source.tree.AnnotatedTypeTree;
import com.sun.source.tree.BinaryTree;
import com.sun.source.tree.ClassTree;
import com.sun.source.tree.CompilationUnitTree;
import com.sun.source.tree.MethodInvocationTree;
import com.sun.source.tree.MethodTree;
import com.sun.source.tree.NewClassTree;
import com.sun.source.tree.Tree;
import com.sun.source.tree.VariableTree;
import com.sun.source.util.JavacTask;
import com.sun.source.util.TreePath;
import com.sun.source.util.TreePathScanner;
import com.sun.source.util.Trees;
import java.io.File;
import java.nio.file.Files;
import java.nio.file.Path;
import java.util.ArrayList;
import java.util.HashMap;
import java.util.HashSet;
import java.util.List;
import java.util.Map;
import java.util.Set;
import java.util.TreeSet;
import javax.lang.model.element.Element;
import javax.lang.model.element.ExecutableElement;
import javax.lang.model.element.Modifier;
import javax.tools.JavaCompiler;
import javax.tools.StandardJavaFileManager;
import javax.tools.ToolProvider;

/** Holds src/main/java/OnePair.java against those rules of ../shared/LANGUAGE.md that its tree shows. */
public final class RulesTest {
  private static final Telling TELLING = new Telling();
  /** Names of the library's functions that rule 4 lists; those of lists, which are of generic classes, too. */
  private static final Set<String> LIBRARY = Set.of(("length charAt isEmpty equals indexOf substring toCharArray append"
      + " setCharAt setLength deleteCharAt reverse toString add get set remove size clear of compare max min abs bitCount"
      + " floorDiv floorMod arraycopy copyOf copyOfRange fill clone iterator hasNext next compareTo values ordinal <init>")
      .split(" "));
  private static final Set<Tree.Kind> FORBIDDEN = Set.of(Tree.Kind.THROW, Tree.Kind.TRY, Tree.Kind.CATCH,
      Tree.Kind.SYNCHRONIZED, Tree.Kind.ASSERT, Tree.Kind.LAMBDA_EXPRESSION, Tree.Kind.MEMBER_REFERENCE,
      Tree.Kind.PACKAGE);

  private static void holds(String what, boolean holds) {
    TELLING.due(what, holds, true);
  }

  /** Lines of the document's block of Java, as they stand there, without "public " ahead and ";" behind. */
  private static Set<String> faceOfDocument() throws Exception {
    Set<String> face = new TreeSet<>();
    boolean inside = false;
    for (String line : Files.readAllLines(Path.of("../shared/DOC.md"))) {
      if (line.startsWith("```")) {
        inside = line.equals("```java");
      } else if (inside && line.startsWith("    public ")) {
        face.add(line.trim().replaceAll("^public ", "").replaceAll("( = -1)?;$", "").replaceAll(" +", " "));
      }
    }
    return face;
  }

  public static void main(String[] args) throws Exception {
    JavaCompiler compiler = ToolProvider.getSystemJavaCompiler();
    StandardJavaFileManager files = compiler.getStandardFileManager(null, null, null);
    JavacTask task = (JavacTask) compiler.getTask(null, files, null, List.of("-proc:none"), null,
        files.getJavaFileObjects(new File("src/main/java/OnePair.java")));
    CompilationUnitTree unit = task.parse().iterator().next();
    task.analyze();
    Rules rules = new Rules(unit, Trees.instance(task));
    rules.scan(unit, null);
    rules.finish();
    String source = Files.readString(Path.of("src/main/java/OnePair.java"));
    for (int i = 0; i < source.length(); i++) {
      holds("sign " + (int) source.charAt(i), source.charAt(i) == 10 || source.charAt(i) >= 32 && source.charAt(i) < 127);
    }
    TELLING.close("RulesTest");
  }

  private static final class Rules extends TreePathScanner<Void, Void> {
    private final CompilationUnitTree unit;
    private final Trees trees;
    private final Set<String> face = new TreeSet<>();
    private final Set<String> publicNames = new HashSet<>();
    private final List<MethodTree> hidden = new ArrayList<>();
    private final Map<Element, Set<Element>> calls = new HashMap<>();
    private final Map<Element, Integer> depths = new HashMap<>();
    private Element method = null;
    private int classes = 0;

    Rules(CompilationUnitTree unit, Trees trees) {
      this.unit = unit;
      this.trees = trees;
    }

    private Element element(Tree tree) {
      return trees.getElement(new TreePath(getCurrentPath(), tree));
    }

    private static boolean isOurs(Element e) {
      Element owner = e;
      while (owner.getEnclosingElement() != null && !owner.getSimpleName().contentEquals("OnePair")) {
        owner = owner.getEnclosingElement();
      }
      return owner.getSimpleName().contentEquals("OnePair");
    }

    @Override public Void scan(Tree tree, Void none) {
      if (tree != null) {
        holds(tree.getKind() + " is not of the language: " + tree, !FORBIDDEN.contains(tree.getKind()));
      }
      return super.scan(tree, none);
    }

    @Override public Void visitClass(ClassTree tree, Void none) {
      classes++;
      boolean isOuter = tree.getSimpleName().contentEquals("OnePair");
      Set<Modifier> flags = tree.getModifiers().getFlags();
      boolean isClass = tree.getKind() == Tree.Kind.CLASS;
      holds(tree.getSimpleName() + " is static", isOuter || !isClass || flags.contains(Modifier.STATIC));
      holds(tree.getSimpleName() + " is inside", isOuter == flags.contains(Modifier.PUBLIC));
      int fields = 0;
      for (Tree member : tree.getMembers()) {
        if (member instanceof VariableTree) {
          VariableTree field = (VariableTree) member;
          boolean isStatic = field.getModifiers().getFlags().contains(Modifier.STATIC);
          fields += isStatic ? 0 : 1;
          checkField(field, isStatic, isOuter);
        }
      }
      holds(tree.getSimpleName() + " has " + fields + " fields", fields <= 20);
      return super.visitClass(tree, none);
    }

    private void checkField(VariableTree field, boolean isStatic, boolean isOuter) {
      Set<Modifier> flags = field.getModifiers().getFlags();
      String type = field.getType().toString();
      holds(field + " is final", !isStatic || flags.contains(Modifier.FINAL));
      holds(field + " is a constant", !isStatic || type.matches("int|long|boolean|char|String|(int|long|char|byte)\\[\\]"));
      if (isOuter && flags.contains(Modifier.PUBLIC)) {
        face.add("static final " + type + " " + field.getName());
      } else {
        holds(field + " is hidden", !isOuter || flags.contains(Modifier.PRIVATE));
      }
    }

    @Override public Void visitMethod(MethodTree tree, Void none) {
      method = element(tree);
      calls.put(method, new HashSet<>());
      boolean isOuter = method.getEnclosingElement().getSimpleName().contentEquals("OnePair");
      boolean isFace = isOuter && tree.getModifiers().getFlags().contains(Modifier.PUBLIC);
      if (isFace) {
        String type = tree.getReturnType() == null ? "" : tree.getReturnType() + " ";
        String name = tree.getReturnType() == null ? "OnePair" : tree.getName().toString();
        face.add(type + name + "(" + tree.getParameters().toString().replace(",", ", ") + ")");
        publicNames.add(name);
      } else {
        hidden.add(tree);
        holds(tree.getName() + " is hidden", !isOuter || tree.getModifiers().getFlags().contains(Modifier.PRIVATE));
        holds(tree.getName() + " has few parameters", tree.getParameters().size() <= 7);
      }
      long begin = trees.getSourcePositions().getStartPosition(unit, tree);
      long close = trees.getSourcePositions().getEndPosition(unit, tree);
      long lines = unit.getLineMap().getLineNumber(close) - unit.getLineMap().getLineNumber(Math.max(begin, 0)) + 1;
      holds(tree.getName() + " has " + lines + " lines", lines <= 60);
      super.visitMethod(tree, none);
      method = null;
      return null;
    }

    @Override public Void visitMethodInvocation(MethodInvocationTree tree, Void none) {
      Element called = trees.getElement(getCurrentPath());
      if (method != null && called instanceof ExecutableElement) {
        calls.get(method).add(called);
        holds(called + " is of the library", isOurs(called) || LIBRARY.contains(called.getSimpleName().toString()));
      }
      return super.visitMethodInvocation(tree, none);
    }

    @Override public Void visitNewClass(NewClassTree tree, Void none) {
      holds("no anonymous class", tree.getClassBody() == null);
      return super.visitNewClass(tree, none);
    }

    @Override public Void visitBinary(BinaryTree tree, Void none) {
      holds("no joining by +: " + tree, !trees.getTypeMirror(getCurrentPath()).toString().contains("String"));
      return super.visitBinary(tree, none);
    }

    @Override public Void visitAnnotatedType(AnnotatedTypeTree tree, Void none) {
      holds("no annotation: " + tree, false);
      return super.visitAnnotatedType(tree, none);
    }

    void finish() throws Exception {
      TELLING.due("classes", classes <= 12, true);
      holds("face " + face + " is " + faceOfDocument(), face.equals(faceOfDocument()));
      for (MethodTree tree : hidden) {
        holds(tree.getName() + " is no public name", !publicNames.contains(tree.getName().toString()));
      }
      for (Element e : calls.keySet()) {
        int depth = depth(e, new HashSet<>());
        holds(e + " goes " + depth + " deep", depth <= 8);
      }
    }

    /** How many calls stand open at once, this one and the library's with it. */
    private int depth(Element e, Set<Element> open) {
      if (!calls.containsKey(e)) {
        return 1;
      }
      if (!open.add(e)) {
        return 0;
      }
      Integer known = depths.get(e);
      int most = 0;
      if (known == null) {
        for (Element called : calls.get(e)) {
          most = Math.max(most, depth(called, open));
        }
        depths.put(e, most + 1);
      }
      open.remove(e);
      return depths.get(e);
    }
  }
}
