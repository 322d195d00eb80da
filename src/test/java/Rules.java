import com.sun.source.tree.*;
import com.sun.source.util.JavacTask;
import com.sun.source.util.TreePath;
import com.sun.source.util.TreePathScanner;
import com.sun.source.util.Trees;
import java.io.IOException;
import java.net.URI;
import java.util.ArrayList;
import java.util.List;
import java.util.Set;
import javax.lang.model.element.Element;
import javax.lang.model.element.ElementKind;
import javax.lang.model.element.ExecutableElement;
import javax.lang.model.element.Modifier;
import javax.lang.model.element.TypeElement;
import javax.lang.model.type.ArrayType;
import javax.lang.model.type.DeclaredType;
import javax.lang.model.type.TypeKind;
import javax.lang.model.type.TypeMirror;
import javax.tools.JavaFileObject;
import javax.tools.SimpleJavaFileObject;
import javax.tools.ToolProvider;

/**
 * Holds a program's text against those rules of LANGUAGE.md that the compiler's own tree of it can show,
 * and against what README says beyond them: only what makes an object makes others.
 */
final class Rules extends TreePathScanner<Void, Void> {
    private static final Set<String> LIBRARY = Set.of(
        "java.lang.Object.<init>", "java.lang.Record.<init>", "java.lang.System.arraycopy", "java.util.Arrays.copyOf",
        "java.util.Arrays.copyOfRange", "java.util.Arrays.fill", "java.lang.String.length", "java.lang.String.charAt",
        "java.lang.String.isEmpty", "java.lang.String.equals", "java.lang.String.indexOf", "java.lang.String.substring",
        "java.lang.String.toCharArray", "java.lang.String.<init>", "java.lang.StringBuilder.<init>", "java.lang.StringBuilder.append",
        "java.lang.StringBuilder.charAt", "java.lang.StringBuilder.setCharAt", "java.lang.StringBuilder.setLength",
        "java.lang.StringBuilder.deleteCharAt", "java.lang.StringBuilder.reverse", "java.lang.StringBuilder.length",
        "java.lang.StringBuilder.toString", "java.util.ArrayList.<init>", "java.util.ArrayList.add", "java.util.ArrayList.get",
        "java.util.ArrayList.set", "java.util.ArrayList.remove", "java.util.ArrayList.size", "java.util.ArrayList.isEmpty",
        "java.util.ArrayList.clear", "java.util.List.add", "java.util.List.get", "java.util.List.set", "java.util.List.remove",
        "java.util.List.size", "java.util.List.isEmpty", "java.util.List.clear");
    private static final Set<String> TEXTS = Set.of("java.lang.String", "java.lang.StringBuilder", "java.lang.Integer");
    private static final Set<String> LISTS = Set.of("java.util.ArrayList", "java.util.List");
    private static final Set<TypeKind> STATIC_ROWS = Set.of(TypeKind.INT, TypeKind.LONG, TypeKind.CHAR, TypeKind.BYTE);
    private static final Set<TypeKind> STATIC_NUMBERS = Set.of(TypeKind.INT, TypeKind.LONG, TypeKind.BOOLEAN, TypeKind.CHAR);
    private static final int MOST_LINES = 60;

    private final List<String> breaches = new ArrayList<>();
    private final Calls calls = new Calls();
    private Trees trees;
    private CompilationUnitTree unit;
    private int classes;

    private Rules() {
    }

    /** Each breach as "rule n: what, line"; none if the text keeps to the rules. */
    static List<String> breachesOf(String text) throws IOException {
        Rules rules = new Rules();
        JavaFileObject file = new SimpleJavaFileObject(URI.create("text:/KeyedTree.java"), JavaFileObject.Kind.SOURCE) {
            @Override
            public CharSequence getCharContent(boolean ignored) {
                return text;
            }
        };
        JavacTask task = (JavacTask) ToolProvider.getSystemJavaCompiler().getTask(null, null, found -> rules.compiler(found.toString()),
            List.of("-proc:none"), null, List.of(file));
        rules.trees = Trees.instance(task);
        for (CompilationUnitTree parsed : task.parse()) {
            rules.unit = parsed;
        }
        task.analyze();
        rules.scan(rules.unit, null);
        rules.breaches.addAll(rules.calls.breaches());
        return rules.breaches;
    }

    private void compiler(String found) {
        breaches.add("compiler: " + found);
    }

    private void breach(int rule, String what, Tree where) {
        long start = trees.getSourcePositions().getStartPosition(unit, where);
        breaches.add("rule " + rule + ": " + what + ", line " + (start < 0 ? 0 : unit.getLineMap().getLineNumber(start)));
    }

    private void must(int rule, boolean holds, String what, Tree where) {
        if (!holds) {
            breach(rule, what, where);
        }
    }

    private Element element(Tree tree) {
        return trees.getElement(TreePath.getPath(unit, tree));
    }

    private TypeMirror type(Tree tree) {
        return trees.getTypeMirror(TreePath.getPath(unit, tree));
    }

    private static boolean isOwn(TypeElement type) {
        for (Element at = type; at != null; at = at.getEnclosingElement()) {
            if (at.getSimpleName().contentEquals("KeyedTree")) {
                return true;
            }
        }
        return false;
    }

    private static String name(TypeMirror type) {
        return type instanceof DeclaredType declared ? ((TypeElement) declared.asElement()).getQualifiedName().toString() : type.toString();
    }

    private static boolean isOwn(TypeMirror type) {
        return type instanceof DeclaredType declared && isOwn((TypeElement) declared.asElement());
    }

    // ---- 1 and 2: one file, classes inside

    @Override
    public Void visitCompilationUnit(CompilationUnitTree tree, Void none) {
        must(1, tree.getPackage() == null, "a package line", tree);
        must(1, tree.getTypeDecls().size() == 1, "one class in the file", tree);
        for (ImportTree told : tree.getImports()) {
            must(4, Set.of("java.util.ArrayList", "java.util.List", "java.util.Arrays", "java.util.Iterator")
                .contains(told.getQualifiedIdentifier().toString()), "an import", told);
        }
        super.visitCompilationUnit(tree, none);
        must(11, classes <= 12, "more than twelve classes", tree);
        return null;
    }

    @Override
    public Void visitClass(ClassTree tree, Void none) {
        classes++;
        Tree outside = getCurrentPath().getParentPath().getLeaf();
        Element own = element(tree);
        must(2, outside instanceof CompilationUnitTree || outside instanceof ClassTree, "a local or anonymous class", tree);
        if (outside instanceof ClassTree && own != null) {
            must(2, own.getModifiers().contains(Modifier.STATIC), "an inner class that isn't static", tree);
            must(1, !own.getModifiers().contains(Modifier.PUBLIC) && !own.getModifiers().contains(Modifier.PROTECTED),
                "a class inside that is seen outside", tree);
        }
        int fields = 0;
        for (Tree member : tree.getMembers()) {
            must(5, !(member instanceof BlockTree block && block.isStatic()), "a static initialiser block", member);
            if (member instanceof VariableTree field && !field.getModifiers().getFlags().contains(Modifier.STATIC)) {
                fields++;
            }
        }
        must(11, fields <= 20, "more than twenty fields", tree);
        return super.visitClass(tree, none);
    }

    @Override
    public Void visitLambdaExpression(LambdaExpressionTree tree, Void none) {
        breach(2, "a lambda", tree);
        return super.visitLambdaExpression(tree, none);
    }

    @Override
    public Void visitMemberReference(MemberReferenceTree tree, Void none) {
        breach(2, "a method reference", tree);
        return super.visitMemberReference(tree, none);
    }

    // ---- 3 and 5: types, static fields

    private static boolean isAllowed(TypeMirror type, int dimensions) {
        if (type instanceof ArrayType row) {
            boolean two = dimensions == 1 && row.getComponentType().getKind().isPrimitive();
            return (dimensions == 0 || two) && isAllowed(row.getComponentType(), dimensions + 1);
        }
        if (type.getKind().isPrimitive() || type.getKind() == TypeKind.VOID || type.getKind() == TypeKind.TYPEVAR || isOwn(type)) {
            return true;
        }
        if (dimensions == 0 && LISTS.contains(name(type))) {
            TypeMirror held = ((DeclaredType) type).getTypeArguments().isEmpty() ? type : ((DeclaredType) type).getTypeArguments().get(0);
            return isOwn(held) || name(held).equals("java.lang.Integer");
        }
        return dimensions == 0 && TEXTS.contains(name(type));
    }

    @Override
    public Void visitVariable(VariableTree tree, Void none) {
        TypeMirror type = type(tree);
        must(3, type == null || isAllowed(type, 0), "the type of " + tree.getName(), tree);
        Element own = element(tree);
        if (own != null && own.getKind() == ElementKind.FIELD && own.getModifiers().contains(Modifier.STATIC)) {
            must(5, own.getModifiers().contains(Modifier.FINAL), "a static field that isn't final", tree);
            must(5, isStaticAllowed(type, tree.getInitializer()), "the static field " + tree.getName(), tree);
        }
        return super.visitVariable(tree, none);
    }

    private static boolean isStaticAllowed(TypeMirror type, Tree initial) {
        if (type instanceof ArrayType row) {
            return STATIC_ROWS.contains(row.getComponentType().getKind())
                && initial instanceof NewArrayTree written && written.getInitializers() != null;
        }
        return STATIC_NUMBERS.contains(type.getKind()) || name(type).equals("java.lang.String");
    }

    @Override
    public Void visitAssignment(AssignmentTree tree, Void none) {
        mustNotChangeStatic(tree.getVariable());
        return super.visitAssignment(tree, none);
    }

    @Override
    public Void visitCompoundAssignment(CompoundAssignmentTree tree, Void none) {
        mustNotChangeStatic(tree.getVariable());
        must(10, !isText(type(tree.getVariable())), "texts joined by +", tree);
        return super.visitCompoundAssignment(tree, none);
    }

    private void mustNotChangeStatic(ExpressionTree changed) {
        if (changed instanceof ArrayAccessTree place) {
            Element row = element(place.getExpression());
            must(5, row == null || !row.getModifiers().contains(Modifier.STATIC), "a static row is changed", changed);
        }
    }

    // ---- 4: the library; calls of the class's own are kept for 8 and 11

    private static boolean isFunctionOfNumbers(ExecutableElement method, String owner) {
        if (!Set.of("java.lang.Math", "java.lang.Integer", "java.lang.Long").contains(owner)
            || !method.getModifiers().contains(Modifier.STATIC) || method.getSimpleName().toString().endsWith("Exact")) {
            return false;
        }
        return method.getParameters().stream().allMatch(one -> one.asType().getKind() == TypeKind.INT || one.asType().getKind() == TypeKind.LONG);
    }

    private void called(Element found, Tree where) {
        if (!(found instanceof ExecutableElement method)) {
            return;
        }
        TypeElement owner = (TypeElement) method.getEnclosingElement();
        if (isOwn(owner)) {
            calls.add(caller(), method);
            return;
        }
        String name = owner.getQualifiedName() + "." + method.getSimpleName();
        boolean cloned = method.getSimpleName().contentEquals("clone");
        must(4, cloned || LIBRARY.contains(name) || isFunctionOfNumbers(method, owner.getQualifiedName().toString()), name, where);
    }

    /** The method that is being read; for what initialises a field, the class. */
    private Element caller() {
        for (TreePath at = getCurrentPath(); at != null; at = at.getParentPath()) {
            if (at.getLeaf() instanceof MethodTree || at.getLeaf() instanceof ClassTree) {
                return element(at.getLeaf());
            }
        }
        return null;
    }

    @Override
    public Void visitMethodInvocation(MethodInvocationTree tree, Void none) {
        called(element(tree), tree);
        return super.visitMethodInvocation(tree, none);
    }

    @Override
    public Void visitNewClass(NewClassTree tree, Void none) {
        called(element(tree), tree);
        mustMakeWithTheObject(tree);
        return super.visitNewClass(tree, none);
    }

    @Override
    public Void visitNewArray(NewArrayTree tree, Void none) {
        mustMakeWithTheObject(tree);
        return super.visitNewArray(tree, none);
    }

    private void mustMakeWithTheObject(Tree tree) {
        Element caller = caller();
        boolean inMethod = caller != null && caller.getKind() == ElementKind.METHOD;
        must(12, !inMethod, "a call that makes an object", tree);
    }

    // ---- 6: what may not be written

    @Override
    public Void visitThrow(ThrowTree tree, Void none) {
        breach(6, "throw", tree);
        return super.visitThrow(tree, none);
    }

    @Override
    public Void visitTry(TryTree tree, Void none) {
        breach(6, "try", tree);
        return super.visitTry(tree, none);
    }

    @Override
    public Void visitSynchronized(SynchronizedTree tree, Void none) {
        breach(6, "synchronized", tree);
        return super.visitSynchronized(tree, none);
    }

    @Override
    public Void visitAssert(AssertTree tree, Void none) {
        breach(6, "assert", tree);
        return super.visitAssert(tree, none);
    }

    @Override
    public Void visitTypeCast(TypeCastTree tree, Void none) {
        must(6, type(tree.getType()).getKind().isPrimitive(), "a cast of an object", tree);
        return super.visitTypeCast(tree, none);
    }

    private static boolean isText(TypeMirror type) {
        return type != null && TEXTS.contains(name(type));
    }

    @Override
    public Void visitBinary(BinaryTree tree, Void none) {
        boolean texts = isText(type(tree.getLeftOperand())) || isText(type(tree.getRightOperand()));
        boolean equality = tree.getKind() == Tree.Kind.EQUAL_TO || tree.getKind() == Tree.Kind.NOT_EQUAL_TO;
        must(6, !equality || !texts, "== between texts or Integers", tree);
        must(10, tree.getKind() != Tree.Kind.PLUS || !texts, "texts joined by +", tree);
        return super.visitBinary(tree, none);
    }

    // ---- 9: loops

    private static boolean isTold(ExpressionTree condition) {
        ExpressionTree bare = condition instanceof ParenthesizedTree inside ? inside.getExpression() : condition;
        return bare != null && bare.getKind() != Tree.Kind.BOOLEAN_LITERAL;
    }

    @Override
    public Void visitForLoop(ForLoopTree tree, Void none) {
        must(9, isTold(tree.getCondition()), "a loop without a bound", tree);
        return super.visitForLoop(tree, none);
    }

    @Override
    public Void visitWhileLoop(WhileLoopTree tree, Void none) {
        must(9, isTold(tree.getCondition()), "a loop without a bound", tree);
        return super.visitWhileLoop(tree, none);
    }

    @Override
    public Void visitDoWhileLoop(DoWhileLoopTree tree, Void none) {
        must(9, isTold(tree.getCondition()), "a loop without a bound", tree);
        return super.visitDoWhileLoop(tree, none);
    }

    // ---- 11: methods

    @Override
    public Void visitMethod(MethodTree tree, Void none) {
        must(11, tree.getParameters().size() <= 7, tree.getName() + " takes more than seven", tree);
        Tree result = tree.getReturnType();
        must(3, result == null || isAllowed(type(result), 0), "what " + tree.getName() + " answers", tree);
        long start = trees.getSourcePositions().getStartPosition(unit, tree);
        long end = trees.getSourcePositions().getEndPosition(unit, tree);
        if (start >= 0 && end >= 0) {
            long lines = unit.getLineMap().getLineNumber(end) - unit.getLineMap().getLineNumber(start) + 1;
            must(11, lines <= MOST_LINES, tree.getName() + " has " + lines + " lines", tree);
        }
        return super.visitMethod(tree, none);
    }
}
