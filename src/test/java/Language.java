import com.sun.source.tree.ArrayAccessTree;
import com.sun.source.tree.AssertTree;
import com.sun.source.tree.BinaryTree;
import com.sun.source.tree.BlockTree;
import com.sun.source.tree.CatchTree;
import com.sun.source.tree.ClassTree;
import com.sun.source.tree.CompilationUnitTree;
import com.sun.source.tree.CompoundAssignmentTree;
import com.sun.source.tree.DoWhileLoopTree;
import com.sun.source.tree.ExpressionTree;
import com.sun.source.tree.ForLoopTree;
import com.sun.source.tree.IdentifierTree;
import com.sun.source.tree.LambdaExpressionTree;
import com.sun.source.tree.LiteralTree;
import com.sun.source.tree.MemberReferenceTree;
import com.sun.source.tree.MemberSelectTree;
import com.sun.source.tree.MethodInvocationTree;
import com.sun.source.tree.MethodTree;
import com.sun.source.tree.NewArrayTree;
import com.sun.source.tree.NewClassTree;
import com.sun.source.tree.SynchronizedTree;
import com.sun.source.tree.ThrowTree;
import com.sun.source.tree.Tree;
import com.sun.source.tree.TryTree;
import com.sun.source.tree.TypeCastTree;
import com.sun.source.tree.VariableTree;
import com.sun.source.tree.WhileLoopTree;
import com.sun.source.util.JavacTask;
import com.sun.source.util.TreePath;
import com.sun.source.util.TreePathScanner;
import com.sun.source.util.Trees;
import java.util.ArrayList;
import java.util.HashMap;
import java.util.List;
import java.util.Map;
import java.util.Set;
import java.util.TreeSet;
import javax.lang.model.element.Element;
import javax.lang.model.element.ElementKind;
import javax.lang.model.element.ExecutableElement;
import javax.lang.model.element.Modifier;
import javax.lang.model.element.NestingKind;
import javax.lang.model.element.TypeElement;
import javax.lang.model.element.VariableElement;
import javax.lang.model.type.ArrayType;
import javax.lang.model.type.DeclaredType;
import javax.lang.model.type.TypeKind;
import javax.lang.model.type.TypeMirror;

/** Looks through the tree of a source for what the rules of LANGUAGE.md do not have, and keeps their numbers. */
final class Language extends TreePathScanner<Void, Void> {
    private static final Set<String> THROWN = Set.of("IllegalStateException", "IllegalArgumentException",
            "IndexOutOfBoundsException", "ArithmeticException", "UnsupportedOperationException",
            "NoSuchElementException", "RuntimeException");
    private static final Set<String> TYPES = Set.of("java.lang.String", "java.lang.StringBuilder", "java.lang.Integer",
            "java.util.ArrayList", "java.util.List", "java.util.Iterator", "java.lang.Iterable", "java.lang.Comparable",
            "java.lang.Object");
    private static final Map<String, Set<String>> CALLS = Map.of(
            "java.lang.String", Set.of("length", "charAt", "isEmpty", "equals", "indexOf", "substring", "toCharArray"),
            "java.lang.StringBuilder", Set.of("append", "charAt", "setCharAt", "setLength", "deleteCharAt", "reverse",
                    "length", "toString"),
            "java.util.ArrayList", Set.of("add", "get", "set", "remove", "size", "isEmpty", "clear"),
            "java.util.List", Set.of("add", "get", "set", "remove", "size", "isEmpty", "clear", "of"),
            "java.lang.Integer", Set.of("compare", "max", "min", "bitCount", "intValue", "valueOf"),
            "java.lang.Long", Set.of("compare", "max", "min", "bitCount"),
            "java.lang.Math", Set.of("max", "min", "abs", "floorDiv", "floorMod"),
            "java.lang.System", Set.of("arraycopy"),
            "java.util.Arrays", Set.of("copyOf", "copyOfRange", "fill"));
    private static final int MOST_PARAMETERS = 7;
    private static final int MOST_LINES = 60;
    private static final int MOST_CLASSES = 12;
    private static final int MOST_FIELDS = 20;
    private static final int DEEPEST = 8;

    private final Trees trees;
    private final JavacTask task;
    private final CompilationUnitTree unit;
    private final Set<String> faults = new TreeSet<>();
    private final Map<Element, List<Element>> callsOf = new HashMap<>();
    private int classes;

    Language(Trees trees, JavacTask task, CompilationUnitTree unit) {
        this.trees = trees;
        this.task = task;
        this.unit = unit;
    }

    Set<String> faults() {
        for (Element method : callsOf.keySet()) {
            if (depth(method, new ArrayList<>()) > DEEPEST) {
                faults.add("11");
            }
        }
        return faults;
    }

    /** How many calls stand open at once below a method; one that comes back to itself has no depth here (rule 8). */
    private int depth(Element method, List<Element> open) {
        if (open.contains(method)) {
            faults.add("8");
            return 0;
        }
        open.add(method);
        int deepest = 0;
        for (Element called : callsOf.getOrDefault(method, List.of())) {
            deepest = Math.max(deepest, depth(called, open));
        }
        open.remove(method);
        return deepest + 1;
    }

    // ---- classes, fields, methods ----

    @Override
    public Void visitClass(ClassTree tree, Void nothing) {
        TypeElement type = (TypeElement) trees.getElement(getCurrentPath());
        classes++;
        breaksIf(classes > MOST_CLASSES, "11");
        breaksIf(type.getNestingKind() == NestingKind.LOCAL, "2");
        breaksIf(type.getNestingKind() == NestingKind.MEMBER && !type.getModifiers().contains(Modifier.STATIC), "1");
        breaksIf(task.getTypes().isSubtype(type.asType(), typeOf("java.lang.Throwable")), "6");
        int fields = 0;
        for (Tree member : tree.getMembers()) {
            if (member instanceof VariableTree field) {
                boolean isStatic = field.getModifiers().getFlags().contains(Modifier.STATIC);
                fields += isStatic ? 0 : 1;
                breaksIf(isStatic && !isConstant(field), "5");
            }
            breaksIf(member instanceof BlockTree block && block.isStatic(), "5");
        }
        breaksIf(fields > MOST_FIELDS, "11");
        return super.visitClass(tree, nothing);
    }

    private boolean isConstant(VariableTree field) {
        VariableElement element = (VariableElement) trees.getElement(new TreePath(getCurrentPath(), field));
        boolean isFinal = element.getModifiers().contains(Modifier.FINAL);
        TypeMirror type = element.asType();
        String told = type.toString();
        boolean isWrittenOut = field.getInitializer() instanceof NewArrayTree array && array.getInitializers() != null;
        if (type.getKind() == TypeKind.ARRAY) {
            return isFinal && isWrittenOut && Set.of("int[]", "long[]", "char[]", "byte[]").contains(told);
        }
        return isFinal && element.getConstantValue() != null
                && Set.of("int", "long", "boolean", "char", "java.lang.String").contains(told);
    }

    @Override
    public Void visitMethod(MethodTree tree, Void nothing) {
        Element method = trees.getElement(getCurrentPath());
        callsOf.putIfAbsent(method, new ArrayList<>());
        breaksIf(tree.getParameters().size() > MOST_PARAMETERS, "11");
        breaksIf(lineOf(tree, true) - lineOf(tree, false) + 1 > MOST_LINES, "11");
        breaksIf(Set.of("equals", "hashCode", "toString").contains(tree.getName().toString()), "6");
        breaksIf(tree.getModifiers().getFlags().contains(Modifier.SYNCHRONIZED), "6");
        breaksIf(tree.getReturnType() != null && !isType(((ExecutableElement) method).getReturnType()), "3");
        return super.visitMethod(tree, nothing);
    }

    @Override
    public Void visitVariable(VariableTree tree, Void nothing) {
        Element variable = trees.getElement(getCurrentPath());
        boolean isCaught = variable.getKind() == ElementKind.EXCEPTION_PARAMETER;
        breaksIf(!isCaught && !isType(variable.asType()), "3");
        return super.visitVariable(tree, nothing);
    }

    // ---- types ----

    private boolean isType(TypeMirror type) {
        if (type == null) {
            return false;
        }
        if (type.getKind().isPrimitive() || type.getKind() == TypeKind.VOID || type.getKind() == TypeKind.TYPEVAR) {
            return true;
        }
        if (type instanceof ArrayType array) {
            return isElement(array.getComponentType());
        }
        return type instanceof DeclaredType declared && isOwnOrListed(declared);
    }

    private boolean isElement(TypeMirror type) {
        if (type instanceof ArrayType inside) {
            return inside.getComponentType().getKind().isPrimitive();
        }
        return type.getKind().isPrimitive() || type instanceof DeclaredType declared && isOwn(declared.asElement());
    }

    private boolean isOwnOrListed(DeclaredType type) {
        return isOwn(type.asElement()) || TYPES.contains(type.asElement().toString());
    }

    private boolean isOwn(Element element) {
        Element outer = element;
        while (outer.getEnclosingElement() != null && outer.getEnclosingElement().getKind() != ElementKind.PACKAGE) {
            outer = outer.getEnclosingElement();
        }
        return outer.equals(trees.getElement(new TreePath(new TreePath(unit), unit.getTypeDecls().get(0))));
    }

    private TypeMirror typeOf(String name) {
        return task.getElements().getTypeElement(name).asType();
    }

    // ---- calls, and what is made ----

    @Override
    public Void visitMethodInvocation(MethodInvocationTree tree, Void nothing) {
        Element called = trees.getElement(getCurrentPath());
        Element around = methodAround();
        boolean isMaking = called.getKind() == ElementKind.CONSTRUCTOR;
        if (isOwn(called)) {
            breaksIf(!isMaking && isMakingIn(around), "12");
            callsOf.computeIfAbsent(around, m -> new ArrayList<>()).add(called);
        } else if (!isMaking) {
            String owner = called.getEnclosingElement().toString();
            boolean isClone = called.getSimpleName().contentEquals("clone");
            breaksIf(!isClone && !CALLS.getOrDefault(owner, Set.of()).contains(called.getSimpleName().toString()), "4");
        }
        return super.visitMethodInvocation(tree, nothing);
    }

    private Element methodAround() {
        TreePath path = getCurrentPath();
        while (path != null && !(path.getLeaf() instanceof MethodTree) && !(path.getLeaf() instanceof ClassTree)) {
            path = path.getParentPath();
        }
        return trees.getElement(path);
    }

    private static boolean isMakingIn(Element method) {
        return method.getKind() == ElementKind.CONSTRUCTOR;
    }

    @Override
    public Void visitNewClass(NewClassTree tree, Void nothing) {
        Element made = trees.getElement(getCurrentPath());
        TypeMirror type = ((ExecutableElement) made).getEnclosingElement().asType();
        boolean isThrown = getCurrentPath().getParentPath().getLeaf() instanceof ThrowTree;
        boolean isListed = Set.of("java.lang.String", "java.lang.StringBuilder", "java.util.ArrayList")
                .contains(made.getEnclosingElement().toString());
        boolean isException = task.getTypes().isSubtype(type, typeOf("java.lang.Throwable"));
        breaksIf(!isThrown && !isListed && !isOwn(made), isException ? "6" : "4");
        if (isOwn(made)) {
            callsOf.computeIfAbsent(methodAround(), m -> new ArrayList<>()).add(made);
        }
        return super.visitNewClass(tree, nothing);
    }

    @Override
    public Void visitMemberSelect(MemberSelectTree tree, Void nothing) {
        Element chosen = trees.getElement(getCurrentPath());
        boolean isField = chosen != null && chosen.getKind() == ElementKind.FIELD;
        // The length of an array is the only field that is neither the program's own nor a library's constant.
        breaksIf(isField && !isOwn(chosen) && !tree.getIdentifier().contentEquals("length"), "4");
        return super.visitMemberSelect(tree, nothing);
    }

    @Override
    public Void visitIdentifier(IdentifierTree tree, Void nothing) {
        TreePath around = getCurrentPath().getParentPath();
        boolean isSelf = tree.getName().contentEquals("this") && !(around.getLeaf() instanceof MemberSelectTree);
        breaksIf(isSelf && isMakingIn(methodAround()), "12");
        return super.visitIdentifier(tree, nothing);
    }

    // ---- exceptions ----

    @Override
    public Void visitThrow(ThrowTree tree, Void nothing) {
        breaksIf(!isWrittenThrow(tree.getExpression()), "6");
        breaksIf(isMakingIn(methodAround()), "6");
        for (TreePath path = getCurrentPath(); !(path.getLeaf() instanceof MethodTree); path = path.getParentPath()) {
            breaksIf(path.getLeaf() instanceof TryTree, "6");
        }
        return super.visitThrow(tree, nothing);
    }

    private static boolean isWrittenThrow(ExpressionTree thrown) {
        if (!(thrown instanceof NewClassTree made) || !THROWN.contains(made.getIdentifier().toString())) {
            return false;
        }
        return made.getArguments().isEmpty()
                || made.getArguments().size() == 1 && made.getArguments().get(0) instanceof LiteralTree;
    }

    @Override
    public Void visitTry(TryTree tree, Void nothing) {
        breaksIf(tree.getFinallyBlock() != null || !tree.getResources().isEmpty(), "6");
        return super.visitTry(tree, nothing);
    }

    @Override
    public Void visitCatch(CatchTree tree, Void nothing) {
        breaksIf(!THROWN.contains(tree.getParameter().getType().toString()), "6");
        return super.visitCatch(tree, nothing);
    }

    @Override
    public Void visitSynchronized(SynchronizedTree tree, Void nothing) {
        faults.add("6");
        return super.visitSynchronized(tree, nothing);
    }

    @Override
    public Void visitAssert(AssertTree tree, Void nothing) {
        faults.add("6");
        return super.visitAssert(tree, nothing);
    }

    @Override
    public Void visitLambdaExpression(LambdaExpressionTree tree, Void nothing) {
        faults.add("2");
        return null;
    }

    @Override
    public Void visitMemberReference(MemberReferenceTree tree, Void nothing) {
        faults.add("2");
        return null;
    }

    // ---- sums, texts, indices, loops ----

    @Override
    public Void visitBinary(BinaryTree tree, Void nothing) {
        boolean isDivision = tree.getKind() == Tree.Kind.DIVIDE || tree.getKind() == Tree.Kind.REMAINDER;
        breaksIf(isDivision && !isFraction() && !isFixed(tree.getRightOperand()), "7");
        breaksIf(tree.getKind() == Tree.Kind.REMAINDER && isFraction(), "3");
        breaksIf(tree.getKind() == Tree.Kind.PLUS && isText(), "10");
        boolean isSame = tree.getKind() == Tree.Kind.EQUAL_TO || tree.getKind() == Tree.Kind.NOT_EQUAL_TO;
        breaksIf(isSame && isTextOrInteger(tree.getLeftOperand()) && isTextOrInteger(tree.getRightOperand()), "6");
        return super.visitBinary(tree, nothing);
    }

    @Override
    public Void visitCompoundAssignment(CompoundAssignmentTree tree, Void nothing) {
        boolean isDivision = tree.getKind() == Tree.Kind.DIVIDE_ASSIGNMENT
                || tree.getKind() == Tree.Kind.REMAINDER_ASSIGNMENT;
        breaksIf(isDivision && !isFraction() && !isFixed(tree.getExpression()), "7");
        breaksIf(tree.getKind() == Tree.Kind.PLUS_ASSIGNMENT && isText(), "10");
        return super.visitCompoundAssignment(tree, nothing);
    }

    private boolean isFraction() {
        TypeKind kind = trees.getTypeMirror(getCurrentPath()).getKind();
        return kind == TypeKind.DOUBLE || kind == TypeKind.FLOAT;
    }

    private boolean isText() {
        return trees.getTypeMirror(getCurrentPath()).toString().startsWith("java.lang.String");
    }

    private boolean isTextOrInteger(ExpressionTree part) {
        String type = trees.getTypeMirror(new TreePath(getCurrentPath(), part)).toString();
        return type.equals("java.lang.String") || type.equals("java.lang.Integer");
    }

    /** A divisor that can be seen not to be 0: a number that is written, or a constant. */
    private boolean isFixed(ExpressionTree divisor) {
        Object value = divisor instanceof LiteralTree written ? written.getValue() : constantOf(divisor);
        return value instanceof Number number && number.longValue() != 0;
    }

    private Object constantOf(ExpressionTree part) {
        Element element = trees.getElement(new TreePath(getCurrentPath(), part));
        return element instanceof VariableElement variable ? variable.getConstantValue() : null;
    }

    /** Whether an index is in range cannot be told here; but it must be a name, or a step from one. */
    @Override
    public Void visitArrayAccess(ArrayAccessTree tree, Void nothing) {
        ExpressionTree index = tree.getIndex();
        boolean isStep = index instanceof BinaryTree step && step.getLeftOperand() instanceof IdentifierTree
                && step.getRightOperand() instanceof LiteralTree;
        breaksIf(!(index instanceof IdentifierTree) && !(index instanceof LiteralTree) && !isStep, "7");
        return super.visitArrayAccess(tree, nothing);
    }

    @Override
    public Void visitTypeCast(TypeCastTree tree, Void nothing) {
        TypeMirror to = trees.getTypeMirror(new TreePath(getCurrentPath(), tree.getType()));
        breaksIf(!to.getKind().isPrimitive() && !isType(to), "3");
        return super.visitTypeCast(tree, nothing);
    }

    @Override
    public Void visitWhileLoop(WhileLoopTree tree, Void nothing) {
        breaksIf(isAlways(tree.getCondition()), "9");
        return super.visitWhileLoop(tree, nothing);
    }

    @Override
    public Void visitDoWhileLoop(DoWhileLoopTree tree, Void nothing) {
        breaksIf(isAlways(tree.getCondition()), "9");
        return super.visitDoWhileLoop(tree, nothing);
    }

    @Override
    public Void visitForLoop(ForLoopTree tree, Void nothing) {
        breaksIf(tree.getCondition() == null || isAlways(tree.getCondition()), "9");
        return super.visitForLoop(tree, nothing);
    }

    private static boolean isAlways(ExpressionTree condition) {
        return condition.toString().replaceAll("[()]", "").equals("true");
    }

    private long lineOf(Tree tree, boolean isEnd) {
        long at = isEnd ? trees.getSourcePositions().getEndPosition(unit, tree)
                : trees.getSourcePositions().getStartPosition(unit, tree);
        return unit.getLineMap().getLineNumber(at);
    }

    private void breaksIf(boolean isBroken, String rule) {
        if (isBroken) {
            faults.add(rule);
        }
    }
}
