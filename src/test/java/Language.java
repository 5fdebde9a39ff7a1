import com.sun.source.tree.*;
import com.sun.source.util.JavacTask;
import com.sun.source.util.TreePath;
import com.sun.source.util.TreePathScanner;
import com.sun.source.util.TreeScanner;
import com.sun.source.util.Trees;
import java.net.URI;
import java.util.ArrayList;
import java.util.HashSet;
import java.util.List;
import java.util.Map;
import java.util.Set;
import java.util.TreeMap;
import java.util.TreeSet;
import javax.lang.model.element.Element;
import javax.lang.model.element.ElementKind;
import javax.lang.model.element.Modifier;
import javax.lang.model.element.VariableElement;
import javax.lang.model.type.ArrayType;
import javax.lang.model.type.TypeKind;
import javax.lang.model.type.TypeMirror;
import javax.tools.JavaFileObject;
import javax.tools.SimpleJavaFileObject;
import javax.tools.ToolProvider;

/**
 * Holds a text against the rules of LANGUAGE.md, on the tree that the compiler makes of it. Where a rule leaves
 * several forms, only the plainest one passes: arrays are made in the fields' initialisers, no local variable
 * names an array, and each loop is a for that counts up to a bound. That an index is looked at before it is used
 * (rule 7) does not show in a tree.
 */
final class Language extends TreePathScanner<Void, Void> {
  private static final Set<Modifier> MODIFIERS = Set.of(Modifier.PUBLIC, Modifier.PRIVATE, Modifier.STATIC,
      Modifier.FINAL);
  private static final Set<TypeKind> NUMBERS = Set.of(TypeKind.INT, TypeKind.LONG, TypeKind.SHORT, TypeKind.BYTE,
      TypeKind.CHAR, TypeKind.BOOLEAN);
  /** What no class may hold at all, under the number of the rule. */
  private static final Map<Integer, Set<Tree.Kind>> FORBIDDEN = Map.of(
      2, Set.of(Tree.Kind.STRING_LITERAL, Tree.Kind.FLOAT_LITERAL, Tree.Kind.DOUBLE_LITERAL),
      4, Set.of(Tree.Kind.NULL_LITERAL, Tree.Kind.NEW_CLASS),
      6, Set.of(Tree.Kind.THROW, Tree.Kind.TRY, Tree.Kind.SYNCHRONIZED, Tree.Kind.ASSERT, Tree.Kind.INSTANCE_OF,
          Tree.Kind.LAMBDA_EXPRESSION, Tree.Kind.MEMBER_REFERENCE),
      8, Set.of(Tree.Kind.WHILE_LOOP, Tree.Kind.DO_WHILE_LOOP, Tree.Kind.ENHANCED_FOR_LOOP));
  private static final int MOST_PARAMETERS = 7;
  private static final int MOST_LINES = 60;
  private static final int MOST_DEPTH = 6;
  private static final int MOST_FIELDS = 40;

  private final Trees trees;
  private final CompilationUnitTree unit;
  private final Set<String> complaints = new TreeSet<>();
  private final Map<String, Set<String>> calls = new TreeMap<>();
  private int fields = 0;
  private String method = "";

  private Language(Trees trees, CompilationUnitTree unit) {
    this.trees = trees;
    this.unit = unit;
  }

  /** Each complaint begins with the number of its rule. */
  static Set<String> complaints(String text) throws Exception {
    URI name = URI.create("string:///StreamFuse.java");
    JavaFileObject file = new SimpleJavaFileObject(name, JavaFileObject.Kind.SOURCE) {
      @Override
      public CharSequence getCharContent(boolean ignoreErrors) {
        return text;
      }
    };
    JavacTask task = (JavacTask) ToolProvider.getSystemJavaCompiler()
        .getTask(null, null, problem -> {}, List.of("-proc:none"), null, List.of(file));
    CompilationUnitTree unit = task.parse().iterator().next();
    task.analyze();
    Language language = new Language(Trees.instance(task), unit);
    language.scan(unit, null);
    language.lookAtCalls();
    return language.complaints;
  }

  private void complainIf(boolean broken, int rule, String what) {
    if (broken) {
      complaints.add(rule + ": " + what + (method.isEmpty() ? "" : " in " + method));
    }
  }

  private Element element() {
    return trees.getElement(getCurrentPath());
  }

  private TypeMirror typeOf(Tree part) {
    return trees.getTypeMirror(new TreePath(getCurrentPath(), part));
  }

  private static boolean isArray(TypeMirror type) {
    return type != null && type.getKind() == TypeKind.ARRAY;
  }

  private static boolean isAllowed(TypeMirror type) {
    return NUMBERS.contains(isArray(type) ? ((ArrayType) type).getComponentType().getKind() : type.getKind());
  }

  private static Object constant(Element element) {
    return element instanceof VariableElement variable ? variable.getConstantValue() : null;
  }

  private static boolean isField(Element element) {
    return element != null && element.getKind() == ElementKind.FIELD;
  }

  @Override
  public Void scan(Tree tree, Void none) {
    if (tree != null) {
      FORBIDDEN.forEach((rule, kinds) -> complainIf(kinds.contains(tree.getKind()), rule, "" + tree.getKind()));
    }
    return super.scan(tree, none);
  }

  @Override
  public Void visitCompilationUnit(CompilationUnitTree tree, Void none) {
    complainIf(tree.getPackage() != null, 1, "a package line");
    complainIf(!tree.getImports().isEmpty(), 3, "an import");
    complainIf(tree.getTypeDecls().size() != 1, 1, "not one class");
    return scan(tree.getTypeDecls(), none);
  }

  @Override
  public Void visitClass(ClassTree tree, Void none) {
    boolean isOuter = getCurrentPath().getParentPath().getLeaf() == unit;
    complainIf(!isOuter || tree.getKind() != Tree.Kind.CLASS, 1, "another type: " + tree.getSimpleName());
    Set<Modifier> modifiers = tree.getModifiers().getFlags();
    complainIf(!modifiers.equals(Set.of(Modifier.PUBLIC, Modifier.FINAL)), 1, "a class that is not public final");
    complainIf(tree.getExtendsClause() != null || !tree.getImplementsClause().isEmpty(), 3, "another class as parent");
    lookAtNames(tree);
    super.visitClass(tree, none);
    complainIf(fields > MOST_FIELDS, 10, fields + " fields");
    return null;
  }

  private void lookAtNames(ClassTree tree) {
    Set<String> names = new HashSet<>();
    for (Tree member : tree.getMembers()) {
      complainIf(member instanceof BlockTree, 5, "an initialiser without a name");
      if (member instanceof MethodTree made) {
        complainIf(!names.add(made.getName().toString()), 1, "a name borne twice: " + made.getName());
      }
    }
  }

  @Override
  public Void visitModifiers(ModifiersTree tree, Void none) {
    complainIf(!MODIFIERS.containsAll(tree.getFlags()), 6, "modifiers " + tree.getFlags());
    complainIf(!tree.getAnnotations().isEmpty(), 3, "an annotation");
    return null;
  }

  @Override
  public Void visitVariable(VariableTree tree, Void none) {
    Element variable = element();
    complainIf(!isAllowed(variable.asType()), 2, "the type of " + tree.getName());
    if (!isField(variable)) {
      boolean isLocal = variable.getKind() == ElementKind.LOCAL_VARIABLE;
      complainIf(isLocal && isArray(variable.asType()), 4, "a local array " + tree.getName());
    } else if (variable.getModifiers().contains(Modifier.STATIC)) {
      boolean isNumber = Set.of(TypeKind.INT, TypeKind.LONG).contains(variable.asType().getKind());
      complainIf(!isNumber || constant(variable) == null, 5, "not a constant: " + tree.getName());
    } else {
      complainIf(!variable.getModifiers().contains(Modifier.PRIVATE), 1, "a field that others see: " + tree.getName());
      fields++;
    }
    scan(tree.getModifiers(), none);
    return scan(tree.getInitializer(), none);
  }

  @Override
  public Void visitMethod(MethodTree tree, Void none) {
    method = tree.getName().toString();
    calls.putIfAbsent(method, new TreeSet<>());
    boolean answers = tree.getReturnType() != null && typeOf(tree.getReturnType()).getKind() != TypeKind.VOID;
    if (answers) {
      complainIf(!isAllowed(typeOf(tree.getReturnType())), 2, "what is answered");
      complainIf(isArray(typeOf(tree.getReturnType())), 4, "an array as answer");
    }
    Set<Modifier> seen = tree.getModifiers().getFlags();
    complainIf(!seen.contains(Modifier.PUBLIC) && !seen.contains(Modifier.PRIVATE), 1, "a member that others see");
    complainIf(!tree.getThrows().isEmpty(), 6, "throws");
    complainIf(tree.getParameters().size() > MOST_PARAMETERS, 10, "too many parameters");
    complainIf(lines(tree) > MOST_LINES, 10, "too many lines");
    super.visitMethod(tree, none);
    method = "";
    return null;
  }

  private long lines(Tree tree) {
    long first = unit.getLineMap().getLineNumber(trees.getSourcePositions().getStartPosition(unit, tree));
    return unit.getLineMap().getLineNumber(trees.getSourcePositions().getEndPosition(unit, tree)) - first + 1;
  }

  @Override
  public Void visitPrimitiveType(PrimitiveTypeTree tree, Void none) {
    boolean isVoid = tree.getPrimitiveTypeKind() == TypeKind.VOID;
    complainIf(!isVoid && !NUMBERS.contains(tree.getPrimitiveTypeKind()), 2, "the type " + tree);
    return null;
  }

  @Override
  public Void visitIdentifier(IdentifierTree tree, Void none) {
    boolean isOurs = tree.getName().contentEquals("this") || tree.getName().contentEquals("super");
    complainIf(!isOurs && (element() == null || element().getKind().isClass()), 3, "the name " + tree);
    return null;
  }

  @Override
  public Void visitMemberSelect(MemberSelectTree tree, Void none) {
    boolean isOwnField = tree.getExpression().toString().equals("this") && isField(element());
    boolean isLength = isArray(typeOf(tree.getExpression())) && tree.getIdentifier().contentEquals("length");
    complainIf(!isOwnField && !isLength, 3, "the name " + tree);
    return super.visitMemberSelect(tree, none);
  }

  @Override
  public Void visitMethodInvocation(MethodInvocationTree tree, Void none) {
    // The compiler itself puts this call in front of a constructor's body.
    if (tree.toString().equals("super()")) {
      return null;
    }
    Element called = element();
    boolean isOwn = called != null && called.getEnclosingElement().getSimpleName().contentEquals("StreamFuse");
    complainIf(!isOwn, 3, "the call " + tree);
    calls.computeIfAbsent(method, made -> new TreeSet<>()).add(called == null ? "" : called.getSimpleName().toString());
    complainIf(tree.getArguments().stream().anyMatch(Language::hasCall), 10, "a call in the arguments of " + tree);
    return super.visitMethodInvocation(tree, none);
  }

  private static boolean hasCall(Tree tree) {
    boolean[] found = {false};
    new TreeScanner<Void, Void>() {
      @Override
      public Void visitMethodInvocation(MethodInvocationTree call, Void none) {
        found[0] = true;
        return null;
      }
    }.scan(tree, null);
    return found[0];
  }

  @Override
  public Void visitNewArray(NewArrayTree tree, Void none) {
    boolean inField = isField(trees.getElement(getCurrentPath().getParentPath()));
    boolean isPlain = tree.getInitializers() == null && tree.getDimensions().size() == 1;
    complainIf(!inField || !isPlain || !isLength(tree.getDimensions().get(0)), 4, "the array " + tree);
    return super.visitNewArray(tree, none);
  }

  private boolean isLength(ExpressionTree tree) {
    Object value = tree instanceof LiteralTree literal
        ? literal.getValue() : constant(trees.getElement(new TreePath(getCurrentPath(), tree)));
    return value instanceof Integer length && length >= 1;
  }

  @Override
  public Void visitAssignment(AssignmentTree tree, Void none) {
    complainIf(isArray(typeOf(tree.getVariable())), 4, "an array is assigned: " + tree);
    return super.visitAssignment(tree, none);
  }

  @Override
  public Void visitBinary(BinaryTree tree, Void none) {
    boolean compares = tree.getKind() == Tree.Kind.EQUAL_TO || tree.getKind() == Tree.Kind.NOT_EQUAL_TO;
    complainIf(compares && isArray(typeOf(tree.getLeftOperand())), 4, "arrays are compared: " + tree);
    boolean divides = tree.getKind() == Tree.Kind.DIVIDE || tree.getKind() == Tree.Kind.REMAINDER;
    complainIf(divides && !isLookedAt(tree.getRightOperand()), 7, "a divisor that may be 0: " + tree);
    return super.visitBinary(tree, none);
  }

  @Override
  public Void visitCompoundAssignment(CompoundAssignmentTree tree, Void none) {
    boolean divides = tree.getKind() == Tree.Kind.DIVIDE_ASSIGNMENT || tree.getKind() == Tree.Kind.REMAINDER_ASSIGNMENT;
    complainIf(divides && !isLookedAt(tree.getExpression()), 7, "a divisor that may be 0: " + tree);
    return super.visitCompoundAssignment(tree, none);
  }

  /** A number other than 0, or a name that ?: has just compared with 0. */
  private boolean isLookedAt(ExpressionTree divisor) {
    if (divisor instanceof LiteralTree literal) {
      return !literal.getValue().equals(0);
    }
    Tree around = getCurrentPath().getParentPath().getLeaf();
    return around instanceof ConditionalExpressionTree choice
        && choice.getFalseExpression() == getCurrentPath().getLeaf()
        && choice.getCondition().toString().replaceAll("[()]", "").equals(divisor + " == 0");
  }

  @Override
  public Void visitTypeCast(TypeCastTree tree, Void none) {
    complainIf(!(tree.getType() instanceof PrimitiveTypeTree), 6, "the cast " + tree);
    return super.visitTypeCast(tree, none);
  }

  @Override
  public Void visitForLoop(ForLoopTree tree, Void none) {
    complainIf(!counts(tree), 8, "a for whose end is not a counter's: " + tree.getCondition());
    return super.visitForLoop(tree, none);
  }

  /** for (int i = ..; i < bound; i++), with neither i nor the bound written to inside. */
  private boolean counts(ForLoopTree tree) {
    if (tree.getInitializer().size() != 1 || !(tree.getInitializer().get(0) instanceof VariableTree counter)
        || !(tree.getCondition() instanceof BinaryTree condition)) {
      return false;
    }
    String name = counter.getName().toString();
    ExpressionTree bound = condition.getRightOperand();
    Set<String> written = writtenIn(tree.getStatement());
    return condition.getKind() == Tree.Kind.LESS_THAN && condition.getLeftOperand().toString().equals(name)
        && tree.getUpdate().size() == 1 && tree.getUpdate().get(0).toString().matches(name + "\\+\\+;?")
        && isFixed(bound) && !written.contains(name) && !written.contains(bound.toString());
  }

  private boolean isFixed(ExpressionTree bound) {
    Element named = trees.getElement(new TreePath(getCurrentPath(), bound));
    return bound instanceof LiteralTree || constant(named) != null || named != null && !isField(named)
        && bound instanceof IdentifierTree;
  }

  private static Set<String> writtenIn(Tree tree) {
    Set<String> written = new HashSet<>();
    new TreeScanner<Void, Void>() {
      @Override
      public Void visitAssignment(AssignmentTree change, Void none) {
        written.add(change.getVariable().toString());
        return super.visitAssignment(change, none);
      }

      @Override
      public Void visitCompoundAssignment(CompoundAssignmentTree change, Void none) {
        written.add(change.getVariable().toString());
        return super.visitCompoundAssignment(change, none);
      }

      @Override
      public Void visitUnary(UnaryTree change, Void none) {
        written.add(change.getExpression().toString());
        return super.visitUnary(change, none);
      }
    }.scan(tree, null);
    return written;
  }

  private void lookAtCalls() {
    for (String name : calls.keySet()) {
      follow(new ArrayList<>(List.of(name)));
    }
  }

  private void follow(List<String> chain) {
    for (String next : calls.getOrDefault(chain.get(chain.size() - 1), Set.of())) {
      List<String> longer = new ArrayList<>(chain);
      longer.add(next);
      complainIf(chain.contains(next), 8, "recursion: " + longer);
      complainIf(longer.size() > MOST_DEPTH, 10, "calls too deep: " + longer);
      if (!chain.contains(next) && longer.size() <= MOST_DEPTH) {
        follow(longer);
      }
    }
  }
}
