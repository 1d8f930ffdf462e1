import com.sun.source.tree.AssertTree;
import com.sun.source.tree.BinaryTree;
import com.sun.source.tree.BlockTree;
import com.sun.source.tree.CatchTree;
import com.sun.source.tree.ClassTree;
import com.sun.source.tree.CompilationUnitTree;
import com.sun.source.tree.CompoundAssignmentTree;
import com.sun.source.tree.ExpressionTree;
import com.sun.source.tree.ImportTree;
import com.sun.source.tree.LambdaExpressionTree;
import com.sun.source.tree.LiteralTree;
import com.sun.source.tree.MemberReferenceTree;
import com.sun.source.tree.MethodInvocationTree;
import com.sun.source.tree.MethodTree;
import com.sun.source.tree.NewClassTree;
import com.sun.source.tree.SynchronizedTree;
import com.sun.source.tree.ThrowTree;
import com.sun.source.tree.Tree;
import com.sun.source.tree.TryTree;
import com.sun.source.tree.VariableTree;
import com.sun.source.util.TreePath;
import com.sun.source.util.TreePathScanner;
import com.sun.source.util.Trees;
import java.util.HashMap;
import java.util.HashSet;
import java.util.LinkedHashSet;
import java.util.Map;
import java.util.Set;
import javax.lang.model.element.Element;
import javax.lang.model.element.ElementKind;
import javax.lang.model.element.ExecutableElement;
import javax.lang.model.element.Modifier;
import javax.lang.model.element.TypeElement;
import javax.lang.model.type.ArrayType;
import javax.lang.model.type.DeclaredType;
import javax.lang.model.type.TypeKind;
import javax.lang.model.type.TypeMirror;

/** Goes over the program's text, and holds each of its parts against the rules of LANGUAGE.md. */
final class LanguageRules extends TreePathScanner<Void, Void> {
  private static final String PROGRAM = "Treeclerk";
  private static final Set<String> IMPORTS = Set.of("java.util.Arrays", "java.util.ArrayList",
      "java.util.List", "java.util.Iterator", "java.util.NoSuchElementException");
  private static final Set<String> TYPES = Set.of("java.lang.String", "java.lang.StringBuilder",
      "java.lang.Integer", "java.util.ArrayList", "java.util.List", "java.util.Iterator",
      "java.lang.Iterable", "java.lang.Comparable");
  private static final Set<String> MADE =
      Set.of("java.lang.String", "java.lang.StringBuilder", "java.util.ArrayList");
  private static final Set<String> EXCEPTIONS = Set.of("IllegalStateException",
      "IllegalArgumentException", "IndexOutOfBoundsException", "ArithmeticException",
      "UnsupportedOperationException", "NoSuchElementException", "RuntimeException");
  private static final Map<String, Set<String>> CALLS = Map.of(
      "java.lang.String", Set.of("length", "charAt", "isEmpty", "equals", "indexOf", "substring",
          "toCharArray"),
      "java.lang.StringBuilder", Set.of("append", "charAt", "setCharAt", "setLength",
          "deleteCharAt", "reverse", "length", "toString"),
      "java.util.ArrayList", Set.of("add", "get", "set", "remove", "size", "isEmpty", "clear"),
      "java.util.List", Set.of("add", "get", "set", "remove", "size", "isEmpty", "clear", "of"),
      "java.util.Arrays", Set.of("copyOf", "copyOfRange", "fill"),
      "java.lang.System", Set.of("arraycopy"),
      "java.lang.Object", Set.of("clone"));
  private static final Set<String> NUMBERS =
      Set.of("java.lang.Integer", "java.lang.Long", "java.lang.Math");
  private static final int MOST_PARAMETERS = 7;
  private static final int MOST_LINES = 60;
  private static final int MOST_DEEP = 8;
  private static final int MOST_CLASSES = 12;
  private static final int MOST_FIELDS = 20;

  private final Trees trees;
  private final CompilationUnitTree unit;
  private final Set<String> publicNames = new HashSet<>();
  private final Set<String> privateNames = new HashSet<>();
  private final Map<Element, Set<Element>> calls = new HashMap<>();
  private int classes = 0;

  LanguageRules(Trees trees, CompilationUnitTree unit) {
    this.trees = trees;
    this.unit = unit;
  }

  /** What can be told only behind the whole text. */
  void finish() {
    Check.due("11: classes", classes <= MOST_CLASSES, true);
    Set<String> both = new HashSet<>(publicNames);
    both.retainAll(privateNames);
    Check.same("1: private methods that bear the name of a public one", both.toString(), "[]");
    Check.due("11: calls were seen", calls.size() > publicNames.size(), true);
    for (Element call : calls.keySet()) {
      Check.due("11: calls from " + call + " on go deeper than " + MOST_DEEP,
          depth(call, new LinkedHashSet<>()) > MOST_DEEP, false);
    }
  }

  /** How many calls are open at once, that itself with them; recursions are gone through once. */
  private int depth(Element call, Set<Element> open) {
    if (!open.add(call)) {
      return 0;
    }
    int most = 0;
    for (Element next : calls.getOrDefault(call, Set.of())) {
      most = Math.max(most, depth(next, open));
    }
    open.remove(call);
    return 1 + most;
  }

  private void rule(String what, Tree tree, boolean holds) {
    long position = trees.getSourcePositions().getStartPosition(unit, tree);
    Check.due(what + ", line " + unit.getLineMap().getLineNumber(position), holds, true);
  }

  private Element element(Tree tree) {
    return trees.getElement(TreePath.getPath(unit, tree));
  }

  private TypeMirror type(Tree tree) {
    return trees.getTypeMirror(TreePath.getPath(unit, tree));
  }

  private static boolean isOwn(Element element) {
    Element outermost = element;
    while (outermost.getEnclosingElement().getKind() != ElementKind.PACKAGE) {
      outermost = outermost.getEnclosingElement();
    }
    return outermost.getSimpleName().contentEquals(PROGRAM);
  }

  private static String nameOf(Element type) {
    return ((TypeElement) type).getQualifiedName().toString();
  }

  private static boolean isAllowed(TypeMirror type) {
    if (type.getKind() == TypeKind.ARRAY) {
      TypeMirror part = ((ArrayType) type).getComponentType();
      // Two dimensions are for numbers alone.
      return part.getKind() == TypeKind.ARRAY
          ? ((ArrayType) part).getComponentType().getKind().isPrimitive() : isAllowed(part);
    }
    if (type.getKind() == TypeKind.DECLARED) {
      Element element = ((DeclaredType) type).asElement();
      return isOwn(element) || TYPES.contains(nameOf(element))
          || EXCEPTIONS.contains(element.getSimpleName().toString());
    }
    return type.getKind().isPrimitive() || type.getKind() == TypeKind.VOID
        || type.getKind() == TypeKind.TYPEVAR;
  }

  private static boolean isText(TypeMirror type) {
    return type != null && type.toString().equals("java.lang.String");
  }

  @Override
  public Void visitCompilationUnit(CompilationUnitTree tree, Void none) {
    Check.due("0: there is no package line", tree.getPackage() == null, true);
    Check.due("0: one class holds all others", tree.getTypeDecls().size(), 1);
    return super.visitCompilationUnit(tree, none);
  }

  @Override
  public Void visitImport(ImportTree tree, Void none) {
    rule("4: an import", tree, !tree.isStatic()
        && IMPORTS.contains(tree.getQualifiedIdentifier().toString()));
    return super.visitImport(tree, none);
  }

  @Override
  public Void visitClass(ClassTree tree, Void none) {
    Element element = element(tree);
    classes++;
    Element around = element.getEnclosingElement();
    boolean isOutermost = around.getKind() == ElementKind.PACKAGE;
    boolean isMember = around.getKind().isClass() || around.getKind().isInterface();
    boolean isAnonymous = tree.getSimpleName().isEmpty();
    rule("2: a local class", tree, isOutermost || isMember || isAnonymous);
    Set<Modifier> modifiers = element.getModifiers();
    rule("1: a class that is seen outside, or uses its outer object", tree, isOutermost
        || isAnonymous || (modifiers.contains(Modifier.STATIC)
            && !modifiers.contains(Modifier.PUBLIC) && !modifiers.contains(Modifier.PROTECTED)));
    int fields = 0;
    for (Tree member : tree.getMembers()) {
      if (member.getKind() == Tree.Kind.VARIABLE
          && !element(member).getModifiers().contains(Modifier.STATIC)) {
        fields++;
      }
    }
    rule("11: too many fields", tree, fields <= MOST_FIELDS);
    return super.visitClass(tree, none);
  }

  @Override
  public Void visitVariable(VariableTree tree, Void none) {
    Element element = element(tree);
    rule("3: a type, " + element.asType(), tree, isAllowed(element.asType()));
    Set<Modifier> modifiers = element.getModifiers();
    if (element.getKind() == ElementKind.FIELD) {
      rule("5: a static field that is not final", tree,
          !modifiers.contains(Modifier.STATIC) || modifiers.contains(Modifier.FINAL));
      if (element.getEnclosingElement().getSimpleName().contentEquals(PROGRAM)) {
        rule("1: a field that is seen", tree, modifiers.contains(Modifier.PRIVATE)
            || element.getSimpleName().contentEquals("NONE"));
      }
    }
    return super.visitVariable(tree, none);
  }

  @Override
  public Void visitMethod(MethodTree tree, Void none) {
    ExecutableElement element = (ExecutableElement) element(tree);
    calls.putIfAbsent(element, new HashSet<>());
    String name = tree.getName().toString();
    Set<Modifier> modifiers = element.getModifiers();
    if (modifiers.contains(Modifier.PRIVATE) && element.getKind() == ElementKind.METHOD) {
      privateNames.add(name);
    } else if (element.getEnclosingElement().getSimpleName().contentEquals(PROGRAM)) {
      rule("1: a method that is seen", tree, modifiers.contains(Modifier.PUBLIC));
      publicNames.add(name);
    }
    rule("6: " + name, tree, !Set.of("equals", "hashCode", "toString").contains(name)
        && !modifiers.contains(Modifier.SYNCHRONIZED));
    rule("3: a type, " + element.getReturnType(), tree, isAllowed(element.getReturnType()));
    rule("11: parameters", tree, tree.getParameters().size() <= MOST_PARAMETERS);
    long start = trees.getSourcePositions().getStartPosition(unit, tree);
    long end = trees.getSourcePositions().getEndPosition(unit, tree);
    if (end >= 0) {
      rule("11: lines", tree, unit.getLineMap().getLineNumber(end)
          - unit.getLineMap().getLineNumber(start) < MOST_LINES);
    }
    return super.visitMethod(tree, none);
  }

  private ExecutableElement method() {
    for (Tree tree : getCurrentPath()) {
      if (tree.getKind() == Tree.Kind.METHOD) {
        return (ExecutableElement) element(tree);
      }
    }
    return null;
  }

  private void noteCall(Element called) {
    if (method() != null && isOwn(called)) {
      calls.computeIfAbsent(method(), key -> new HashSet<>()).add(called);
    }
  }

  @Override
  public Void visitMethodInvocation(MethodInvocationTree tree, Void none) {
    Element called = element(tree.getMethodSelect());
    String owner = nameOf(called.getEnclosingElement());
    String name = called.getSimpleName().toString();
    boolean isOfNumbers = NUMBERS.contains(owner) && !name.endsWith("Exact")
        && called.getModifiers().contains(Modifier.STATIC)
        && ((ExecutableElement) called).getParameters().stream().allMatch(
            parameter -> Set.of(TypeKind.INT, TypeKind.LONG).contains(parameter.asType().getKind()));
    rule("4: " + owner + "." + name, tree, isOwn(called) || isOfNumbers || name.equals("<init>")
        || CALLS.getOrDefault(owner, Set.of()).contains(name));
    noteCall(called);
    return super.visitMethodInvocation(tree, none);
  }

  @Override
  public Void visitNewClass(NewClassTree tree, Void none) {
    Element made = element(tree.getIdentifier());
    Tree.Kind around = getCurrentPath().getParentPath().getLeaf().getKind();
    boolean isThrown = around == Tree.Kind.THROW;
    rule("4: new " + made, tree, isOwn(made) || MADE.contains(nameOf(made)) || isThrown);
    noteCall(element(tree));
    return super.visitNewClass(tree, none);
  }

  @Override
  public Void visitThrow(ThrowTree tree, Void none) {
    ExpressionTree thrown = tree.getExpression();
    boolean isNew = thrown instanceof NewClassTree;
    rule("6: thrown, but not made there", tree, isNew);
    if (isNew) {
      NewClassTree made = (NewClassTree) thrown;
      rule("6: " + made.getIdentifier(), tree,
          EXCEPTIONS.contains(made.getIdentifier().toString()));
      rule("6: what is told by it", tree, made.getArguments().isEmpty()
          || made.getArguments().get(0).getKind() == Tree.Kind.STRING_LITERAL);
    }
    rule("6: thrown by a constructor, or by no method", tree,
        method() != null && method().getKind() == ElementKind.METHOD);
    return super.visitThrow(tree, none);
  }

  @Override
  public Void visitTry(TryTree tree, Void none) {
    rule("6: try", tree, tree.getFinallyBlock() == null && tree.getResources().isEmpty()
        && !tree.getCatches().isEmpty());
    return super.visitTry(tree, none);
  }

  @Override
  public Void visitCatch(CatchTree tree, Void none) {
    String caught = tree.getParameter().getType().toString();
    rule("6: catch " + caught, tree, EXCEPTIONS.contains(caught));
    return super.visitCatch(tree, none);
  }

  @Override
  public Void visitSynchronized(SynchronizedTree tree, Void none) {
    rule("6: synchronized", tree, false);
    return super.visitSynchronized(tree, none);
  }

  @Override
  public Void visitAssert(AssertTree tree, Void none) {
    rule("6: assert", tree, false);
    return super.visitAssert(tree, none);
  }

  @Override
  public Void visitLambdaExpression(LambdaExpressionTree tree, Void none) {
    rule("2: a lambda", tree, false);
    return super.visitLambdaExpression(tree, none);
  }

  @Override
  public Void visitMemberReference(MemberReferenceTree tree, Void none) {
    rule("2: a method reference", tree, false);
    return super.visitMemberReference(tree, none);
  }

  @Override
  public Void visitBlock(BlockTree tree, Void none) {
    rule("5: a static initialiser block", tree, !tree.isStatic());
    return super.visitBlock(tree, none);
  }

  @Override
  public Void visitBinary(BinaryTree tree, Void none) {
    boolean isOfTexts = isText(type(tree.getLeftOperand())) || isText(type(tree.getRightOperand()));
    rule("10: texts joined by +", tree, tree.getKind() != Tree.Kind.PLUS || !isOfTexts);
    boolean isIdentity =
        tree.getKind() == Tree.Kind.EQUAL_TO || tree.getKind() == Tree.Kind.NOT_EQUAL_TO;
    rule("6: texts compared by ==", tree, !isIdentity || !isOfTexts);
    return super.visitBinary(tree, none);
  }

  @Override
  public Void visitCompoundAssignment(CompoundAssignmentTree tree, Void none) {
    rule("10: texts joined by +=", tree, !isText(type(tree.getVariable())));
    return super.visitCompoundAssignment(tree, none);
  }

  @Override
  public Void visitLiteral(LiteralTree tree, Void none) {
    if (tree.getValue() instanceof String text) {
      rule("4: a text's signs", tree, text.chars().allMatch(sign -> sign >= 1 && sign <= 127));
    }
    return super.visitLiteral(tree, none);
  }
}
