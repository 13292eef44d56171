import com.sun.source.tree.*;
import com.sun.source.util.JavacTask;
import com.sun.source.util.TreePath;
import com.sun.source.util.TreePathScanner;
import com.sun.source.util.Trees;
import java.io.IOException;
import java.net.URI;
import java.util.ArrayList;
import java.util.HashMap;
import java.util.LinkedHashSet;
import java.util.List;
import java.util.Map;
import java.util.Set;
import javax.lang.model.element.Element;
import javax.lang.model.element.ElementKind;
import javax.lang.model.element.ExecutableElement;
import javax.lang.model.element.Modifier;
import javax.lang.model.element.VariableElement;
import javax.lang.model.type.ArrayType;
import javax.lang.model.type.DeclaredType;
import javax.lang.model.type.TypeKind;
import javax.lang.model.type.TypeMirror;
import javax.tools.JavaFileObject;
import javax.tools.SimpleJavaFileObject;
import javax.tools.ToolProvider;

/**
 * Where a source breaks what ../shared/LANGUAGE.md asks, as far as that can be read off it. It asks more than the rules
 * where the program keeps to more: no recursion, no try, no local class, no object made by a call but an exception.
 */
final class LanguageRules extends TreePathScanner<Void, Void> {
    private static final Set<String> EXCEPTIONS = Set.of("IllegalStateException", "IllegalArgumentException",
        "IndexOutOfBoundsException", "ArithmeticException", "UnsupportedOperationException", "NoSuchElementException",
        "RuntimeException");
    private static final Set<String> LIBRARY_TYPES = Set.of("String", "StringBuilder", "Integer", "ArrayList", "List",
        "Iterator", "Iterable", "Comparable");
    private static final Set<String> NUMBERS_ALONE = Set.of("Math", "Integer", "Long");
    private static final Map<String, Set<String>> CALLS = Map.of(
        "String", Set.of("length", "charAt", "isEmpty", "equals", "indexOf", "substring", "toCharArray"),
        "StringBuilder", Set.of("append", "charAt", "setCharAt", "setLength", "deleteCharAt", "reverse", "length", "toString"),
        "ArrayList", Set.of("add", "get", "set", "remove", "size", "isEmpty", "clear"),
        "List", Set.of("add", "get", "set", "remove", "size", "isEmpty", "clear", "of"),
        "System", Set.of("arraycopy"),
        "Arrays", Set.of("copyOf", "copyOfRange", "fill"));
    private static final Set<TypeKind> ONE_VALUE = Set.of(TypeKind.INT, TypeKind.LONG, TypeKind.BOOLEAN, TypeKind.CHAR);
    private static final Set<TypeKind> KEPT_ROWS = Set.of(TypeKind.INT, TypeKind.LONG, TypeKind.BYTE, TypeKind.CHAR);
    private static final int MOST_LINES = 60;
    private static final int MOST_PARAMETERS = 7;
    private static final int MOST_DEEP = 8;
    private static final int MOST_CLASSES = 12;
    private static final int MOST_FIELDS = 20;

    private final List<String> faults = new ArrayList<>();
    private final Map<Element, Set<Element>> calls = new HashMap<>();
    private final Trees trees;
    private final CompilationUnitTree unit;
    private int classes = 0;

    private LanguageRules(JavacTask task, CompilationUnitTree unit) {
        this.trees = Trees.instance(task);
        this.unit = unit;
    }

    /** One line for each fault: the rule's number, a colon, and what is wrong in which line. */
    static List<String> faults(String source) throws IOException {
        JavaFileObject file = new SimpleJavaFileObject(URI.create("string:///PlateauBench.java"), JavaFileObject.Kind.SOURCE) {
            @Override
            public CharSequence getCharContent(boolean isLenient) {
                return source;
            }
        };
        JavacTask task = (JavacTask) ToolProvider.getSystemJavaCompiler().getTask(null, null, null, null, null, List.of(file));
        CompilationUnitTree unit = task.parse().iterator().next();
        task.analyze();
        LanguageRules rules = new LanguageRules(task, unit);
        rules.scan(unit, null);
        rules.lookAtCalls();
        if (rules.classes > MOST_CLASSES) {
            rules.faults.add("11: " + rules.classes + " classes");
        }
        if (source.chars().anyMatch(sign -> sign > 127)) {
            rules.faults.add("4: a sign beyond 127");
        }
        return rules.faults;
    }

    private void fault(int rule, Tree at, String what) {
        long line = unit.getLineMap().getLineNumber(trees.getSourcePositions().getStartPosition(unit, at));
        faults.add(rule + ": " + what + " in line " + line);
    }

    private TypeMirror typeOf(Tree tree) {
        return trees.getTypeMirror(new TreePath(getCurrentPath(), tree));
    }

    private static boolean isOwn(Element element) {
        Element at = element;
        while (at != null && !at.getSimpleName().contentEquals("PlateauBench")) {
            at = at.getEnclosingElement();
        }
        return at != null;
    }

    private static String nameOf(TypeMirror type) {
        return type instanceof DeclaredType declared ? declared.asElement().getSimpleName().toString() : String.valueOf(type);
    }

    /** Whether a tree round this one, within the same method, is of one of these kinds. */
    private boolean isWithin(Tree.Kind... kinds) {
        for (TreePath path = getCurrentPath().getParentPath(); path != null; path = path.getParentPath()) {
            if (List.of(kinds).contains(path.getLeaf().getKind())) {
                return true;
            }
            if (path.getLeaf().getKind() == Tree.Kind.METHOD) {
                return false;
            }
        }
        return false;
    }

    private MethodTree methodRound() {
        for (TreePath path = getCurrentPath(); path != null; path = path.getParentPath()) {
            if (path.getLeaf() instanceof MethodTree method) {
                return method;
            }
        }
        return null;
    }

    /** The method or, in a field's initialiser, the class. */
    private Element elementRound() {
        TreePath path = getCurrentPath();
        while (!(path.getLeaf() instanceof MethodTree) && !(path.getLeaf() instanceof ClassTree)) {
            path = path.getParentPath();
        }
        return trees.getElement(path);
    }

    // ---- the file, and rule 2

    @Override
    public Void visitPackage(PackageTree tree, Void none) {
        fault(1, tree, "a package line");
        return super.visitPackage(tree, none);
    }

    @Override
    public Void visitImport(ImportTree tree, Void none) {
        String name = tree.getQualifiedIdentifier().toString();
        if (!Set.of("java.util.ArrayList", "java.util.List", "java.util.Iterator", "java.util.Arrays",
            "java.util.NoSuchElementException").contains(name)) {
            fault(4, tree, "import of " + name);
        }
        return null;
    }

    @Override
    public Void visitClass(ClassTree tree, Void none) {
        classes++;
        Element element = trees.getElement(getCurrentPath());
        if (element.getEnclosingElement() instanceof ExecutableElement && !tree.getSimpleName().isEmpty()) {
            fault(2, tree, "a local class");
        }
        int fields = 0;
        for (Element member : element.getEnclosedElements()) {
            boolean isField = member.getKind().isField() && !member.getModifiers().contains(Modifier.STATIC);
            fields += isField ? 1 : 0;
        }
        if (fields > MOST_FIELDS) {
            fault(11, tree, fields + " fields");
        }
        return super.visitClass(tree, none);
    }

    @Override
    public Void visitLambdaExpression(LambdaExpressionTree tree, Void none) {
        fault(2, tree, "a lambda");
        return super.visitLambdaExpression(tree, none);
    }

    @Override
    public Void visitMemberReference(MemberReferenceTree tree, Void none) {
        fault(2, tree, "a method reference");
        return super.visitMemberReference(tree, none);
    }

    // ---- rules 3 and 5

    private static boolean isAllowed(TypeMirror type) {
        if (type instanceof ArrayType row) {
            TypeMirror of = row.getComponentType();
            if (of instanceof ArrayType inner) {
                return inner.getComponentType().getKind().isPrimitive() && inner.getComponentType().getKind() != TypeKind.BOOLEAN;
            }
            return of.getKind().isPrimitive() || (of instanceof DeclaredType declared && isOwn(declared.asElement()));
        }
        if (type instanceof DeclaredType declared) {
            return isOwn(declared.asElement()) || LIBRARY_TYPES.contains(nameOf(type)) || EXCEPTIONS.contains(nameOf(type));
        }
        return type.getKind() != TypeKind.ERROR;
    }

    @Override
    public Void visitVariable(VariableTree tree, Void none) {
        VariableElement element = (VariableElement) trees.getElement(getCurrentPath());
        if (!isAllowed(element.asType())) {
            fault(3, tree, "the type " + element.asType());
        }
        if (element.getModifiers().contains(Modifier.STATIC) && element.getKind() != ElementKind.ENUM_CONSTANT) {
            lookAtStatic(tree, element);
        }
        return super.visitVariable(tree, none);
    }

    private void lookAtStatic(VariableTree tree, VariableElement element) {
        TypeMirror type = element.asType();
        boolean isConstant = ONE_VALUE.contains(type.getKind()) || nameOf(type).equals("String");
        if (type instanceof ArrayType row) {
            boolean isWrittenOut = tree.getInitializer() instanceof NewArrayTree made && made.getInitializers() != null;
            boolean isValues = String.valueOf(tree.getInitializer()).endsWith("values()");
            isConstant = isValues || (isWrittenOut && KEPT_ROWS.contains(row.getComponentType().getKind()));
        }
        if (!isConstant || !element.getModifiers().contains(Modifier.FINAL)) {
            fault(5, tree, "a static field that is no constant");
        }
    }

    @Override
    public Void visitBlock(BlockTree tree, Void none) {
        if (tree.isStatic()) {
            fault(5, tree, "a static initialiser block");
        }
        return super.visitBlock(tree, none);
    }

    // ---- rule 4

    @Override
    public Void visitMethodInvocation(MethodInvocationTree tree, Void none) {
        Element called = trees.getElement(getCurrentPath());
        if (called instanceof ExecutableElement method) {
            if (isOwn(method)) {
                calls.computeIfAbsent(elementRound(), key -> new LinkedHashSet<>()).add(method);
            } else if (!method.getSimpleName().contentEquals("<init>") && !isInLibrary(method, tree)) {
                fault(4, tree, "a call of " + method.getEnclosingElement() + "." + method.getSimpleName());
            }
        }
        return super.visitMethodInvocation(tree, none);
    }

    private boolean isInLibrary(ExecutableElement method, MethodInvocationTree tree) {
        String owner = method.getEnclosingElement().getSimpleName().toString();
        String name = method.getSimpleName().toString();
        if (NUMBERS_ALONE.contains(owner)) {
            boolean isWhole = method.getParameters().stream()
                .allMatch(p -> p.asType().getKind() == TypeKind.INT || p.asType().getKind() == TypeKind.LONG);
            return isWhole && method.getModifiers().contains(Modifier.STATIC) && !name.endsWith("Exact");
        }
        boolean isCloneOfArray = name.equals("clone") && tree.getMethodSelect() instanceof MemberSelectTree select
            && typeOf(select.getExpression()) instanceof ArrayType;
        return isCloneOfArray || CALLS.getOrDefault(owner, Set.of()).contains(name);
    }

    @Override
    public Void visitMemberSelect(MemberSelectTree tree, Void none) {
        Element element = trees.getElement(getCurrentPath());
        boolean isLength = tree.getIdentifier().contentEquals("length");
        if (element instanceof VariableElement && !isOwn(element) && !isLength) {
            fault(4, tree, "a library's field " + tree);
        }
        return super.visitMemberSelect(tree, none);
    }

    @Override
    public Void visitLiteral(LiteralTree tree, Void none) {
        if (tree.getValue() instanceof String text && text.chars().anyMatch(sign -> sign < 1 || sign > 127)) {
            fault(4, tree, "a text's sign that is not 1 to 127");
        }
        return super.visitLiteral(tree, none);
    }

    // ---- rule 6

    @Override
    public Void visitThrow(ThrowTree tree, Void none) {
        boolean isNew = tree.getExpression() instanceof NewClassTree made && EXCEPTIONS.contains(made.getIdentifier().toString())
            && (made.getArguments().isEmpty() || made.getArguments().get(0).getKind() == Tree.Kind.STRING_LITERAL);
        if (!isNew) {
            fault(6, tree, "a throw of something else");
        }
        MethodTree round = methodRound();
        if (round == null || round.getName().contentEquals("<init>")) {
            fault(6, tree, "a throw in a constructor");
        }
        return super.visitThrow(tree, none);
    }

    @Override
    public Void visitTry(TryTree tree, Void none) {
        fault(6, tree, "a try");
        return super.visitTry(tree, none);
    }

    @Override
    public Void visitSynchronized(SynchronizedTree tree, Void none) {
        fault(6, tree, "synchronized");
        return super.visitSynchronized(tree, none);
    }

    @Override
    public Void visitAssert(AssertTree tree, Void none) {
        fault(6, tree, "assert");
        return super.visitAssert(tree, none);
    }

    // ---- rules 9, 10 and 12

    private void lookAtEnd(Tree loop, ExpressionTree condition) {
        if (condition == null || condition.toString().matches("\\(*true\\)*")) {
            fault(9, loop, "a loop without an end");
        }
    }

    @Override
    public Void visitForLoop(ForLoopTree tree, Void none) {
        lookAtEnd(tree, tree.getCondition());
        return super.visitForLoop(tree, none);
    }

    @Override
    public Void visitWhileLoop(WhileLoopTree tree, Void none) {
        lookAtEnd(tree, tree.getCondition());
        return super.visitWhileLoop(tree, none);
    }

    @Override
    public Void visitDoWhileLoop(DoWhileLoopTree tree, Void none) {
        lookAtEnd(tree, tree.getCondition());
        return super.visitDoWhileLoop(tree, none);
    }

    @Override
    public Void visitBinary(BinaryTree tree, Void none) {
        String left = nameOf(typeOf(tree.getLeftOperand()));
        String right = nameOf(typeOf(tree.getRightOperand()));
        boolean isOfText = left.equals("String") || right.equals("String");
        boolean isComparison = tree.getKind() == Tree.Kind.EQUAL_TO || tree.getKind() == Tree.Kind.NOT_EQUAL_TO;
        if (tree.getKind() == Tree.Kind.PLUS && isOfText) {
            fault(10, tree, "texts joined by +");
        }
        if (isComparison && (isOfText || (left.equals("Integer") && right.equals("Integer")))) {
            fault(6, tree, "texts or Integers compared by " + tree.getKind());
        }
        return super.visitBinary(tree, none);
    }

    @Override
    public Void visitCompoundAssignment(CompoundAssignmentTree tree, Void none) {
        if (nameOf(typeOf(tree.getVariable())).equals("String")) {
            fault(10, tree, "texts joined by +");
        }
        return super.visitCompoundAssignment(tree, none);
    }

    @Override
    public Void visitNewClass(NewClassTree tree, Void none) {
        Element constructor = trees.getElement(getCurrentPath());
        if (constructor != null && isOwn(constructor)) {
            calls.computeIfAbsent(elementRound(), key -> new LinkedHashSet<>()).add(constructor);
        }
        if (!(getCurrentPath().getParentPath().getLeaf() instanceof ThrowTree)) {
            lookAtMaking(tree);
        }
        return super.visitNewClass(tree, none);
    }

    @Override
    public Void visitNewArray(NewArrayTree tree, Void none) {
        lookAtMaking(tree);
        return super.visitNewArray(tree, none);
    }

    private void lookAtMaking(Tree tree) {
        MethodTree round = methodRound();
        boolean isInLoop = isWithin(Tree.Kind.FOR_LOOP, Tree.Kind.ENHANCED_FOR_LOOP, Tree.Kind.WHILE_LOOP,
            Tree.Kind.DO_WHILE_LOOP);
        if (isInLoop || (round != null && !round.getName().contentEquals("<init>"))) {
            fault(12, tree, "an object made by a call");
        }
    }

    // ---- rules 8 and 11

    @Override
    public Void visitMethod(MethodTree tree, Void none) {
        if (tree.getParameters().size() > MOST_PARAMETERS) {
            fault(11, tree, tree.getParameters().size() + " parameters");
        }
        long start = trees.getSourcePositions().getStartPosition(unit, tree);
        long end = trees.getSourcePositions().getEndPosition(unit, tree);
        long lines = unit.getLineMap().getLineNumber(end) - unit.getLineMap().getLineNumber(start) + 1;
        if (end >= 0 && lines > MOST_LINES) {
            fault(11, tree, lines + " lines");
        }
        Element element = trees.getElement(getCurrentPath());
        TypeMirror answer = ((ExecutableElement) element).getReturnType();
        if (!isAllowed(answer)) {
            fault(3, tree, "the type " + answer);
        }
        calls.computeIfAbsent(element, key -> new LinkedHashSet<>());
        return super.visitMethod(tree, none);
    }

    private void lookAtCalls() {
        for (Element method : List.copyOf(calls.keySet())) {
            int deep = deepest(method, new LinkedHashSet<>());
            if (deep > MOST_DEEP) {
                faults.add("11: calls " + deep + " deep from " + method);
            }
        }
    }

    /** How many calls stand open at once at most; one that comes round to itself is told as a fault. */
    private int deepest(Element method, Set<Element> open) {
        if (!open.add(method)) {
            faults.add("8: recursion through " + method);
            return 0;
        }
        int deep = 0;
        for (Element called : calls.getOrDefault(method, Set.of())) {
            deep = Math.max(deep, deepest(called, open));
        }
        open.remove(method);
        return deep + 1;
    }
}
