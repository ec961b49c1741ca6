import com.sun.source.tree.ArrayAccessTree;
import com.sun.source.tree.AssertTree;
import com.sun.source.tree.AssignmentTree;
import com.sun.source.tree.BlockTree;
import com.sun.source.tree.ClassTree;
import com.sun.source.tree.CompilationUnitTree;
import com.sun.source.tree.CompoundAssignmentTree;
import com.sun.source.tree.DoWhileLoopTree;
import com.sun.source.tree.ExpressionTree;
import com.sun.source.tree.ForLoopTree;
import com.sun.source.tree.LambdaExpressionTree;
import com.sun.source.tree.LiteralTree;
import com.sun.source.tree.MemberReferenceTree;
import com.sun.source.tree.MethodInvocationTree;
import com.sun.source.tree.MethodTree;
import com.sun.source.tree.NewArrayTree;
import com.sun.source.tree.NewClassTree;
import com.sun.source.tree.SynchronizedTree;
import com.sun.source.tree.ThrowTree;
import com.sun.source.tree.Tree;
import com.sun.source.tree.TryTree;
import com.sun.source.tree.UnaryTree;
import com.sun.source.tree.VariableTree;
import com.sun.source.tree.WhileLoopTree;
import com.sun.source.util.JavacTask;
import com.sun.source.util.TreePath;
import com.sun.source.util.TreePathScanner;
import com.sun.source.util.Trees;
import java.io.IOException;
import java.nio.file.Path;
import java.util.HashMap;
import java.util.HashSet;
import java.util.List;
import java.util.Map;
import java.util.Set;
import javax.lang.model.element.Element;
import javax.lang.model.element.ElementKind;
import javax.lang.model.element.Modifier;
import javax.lang.model.type.TypeKind;
import javax.tools.JavaCompiler;
import javax.tools.StandardJavaFileManager;
import javax.tools.ToolProvider;

/** Rules of LANGUAGE.md, looked at in the tree that javac makes of the class. */
public final class LanguageTreeTest extends TreePathScanner<Void, Void> {
    private static final Path SOURCE = Path.of("src/main/java/StagedTables.java");
    private static final int MOST_LINES = 60, MOST_PARAMETERS = 7, DEEPEST = 8, TOO_DEEP = 99;
    /** Rule 4, but for Integer, Long and Math, of which all is free that does not end in Exact. */
    private static final Map<String, Set<String>> LIBRARY = Map.of(
        "java.lang.String", Set.of("length", "charAt", "isEmpty", "equals", "indexOf", "substring", "toCharArray"),
        "java.lang.StringBuilder", Set.of("append", "charAt", "setCharAt", "setLength", "deleteCharAt", "reverse",
            "length", "toString"),
        "java.util.ArrayList", Set.of("add", "get", "set", "remove", "size", "isEmpty", "clear"),
        "java.util.List", Set.of("add", "get", "set", "remove", "size", "isEmpty", "clear", "of"),
        "java.lang.System", Set.of("arraycopy"),
        "java.util.Arrays", Set.of("copyOf", "copyOfRange", "fill"),
        "Array", Set.of("clone"));
    private static final Set<String> MADE = Set.of("java.lang.String", "java.lang.StringBuilder", "java.util.ArrayList");
    private static final Set<TypeKind> CONSTANTS = Set.of(TypeKind.INT, TypeKind.LONG, TypeKind.BOOLEAN, TypeKind.CHAR);
    private static final Set<String> CONSTANT_ARRAYS = Set.of("int[]", "long[]", "char[]", "byte[]");

    private final Trees trees;
    private final CompilationUnitTree unit;
    private final Map<Element, Set<Element>> calls = new HashMap<>();
    private Element method;

    private LanguageTreeTest(Trees trees, CompilationUnitTree unit) {
        this.trees = trees;
        this.unit = unit;
    }

    public static void main(String[] args) throws IOException {
        JavaCompiler compiler = ToolProvider.getSystemJavaCompiler();
        try (StandardJavaFileManager files = compiler.getStandardFileManager(null, null, null)) {
            JavacTask task = (JavacTask) compiler.getTask(null, files, null, List.of("-proc:none"), null,
                files.getJavaFileObjects(SOURCE));
            CompilationUnitTree unit = task.parse().iterator().next();
            task.analyze();
            LanguageTreeTest test = new LanguageTreeTest(Trees.instance(task), unit);
            Due.isTrue("rule 1: one class alone, without a package",
                unit.getTypeDecls().size() == 1 && unit.getPackage() == null);
            test.scan(new TreePath(unit), null);
            test.depth();
        }
        Due.end();
    }

    private long line(long position) {
        return unit.getLineMap().getLineNumber(position);
    }

    private void rule(int number, String what, boolean holds) {
        long at = line(trees.getSourcePositions().getStartPosition(unit, getCurrentPath().getLeaf()));
        Due.isTrue("rule " + number + ", line " + at + ": " + what, holds);
    }

    @Override
    public Void visitClass(ClassTree tree, Void none) {
        Element element = trees.getElement(getCurrentPath());
        boolean outer = element.getEnclosingElement().getKind() == ElementKind.PACKAGE;
        boolean nested = element.getEnclosingElement().getKind().isClass();
        rule(2, "a class of its own or a static one inside",
            outer || nested && element.getModifiers().contains(Modifier.STATIC));
        rule(2, "no class without a name", !tree.getSimpleName().isEmpty());
        for (Tree member : tree.getMembers()) {
            rule(5, "no block beside the methods", !(member instanceof BlockTree));
        }
        return super.visitClass(tree, none);
    }

    @Override
    public Void visitMethod(MethodTree tree, Void none) {
        Element before = method;
        method = trees.getElement(getCurrentPath());
        calls.put(method, new HashSet<>());
        long first = line(trees.getSourcePositions().getStartPosition(unit, tree));
        long last = line(trees.getSourcePositions().getEndPosition(unit, tree));
        rule(11, tree.getName() + " is of " + (last - first + 1) + " lines", last - first < MOST_LINES);
        rule(11, tree.getName() + " has few parameters", tree.getParameters().size() <= MOST_PARAMETERS);
        super.visitMethod(tree, none);
        method = before;
        return null;
    }

    @Override
    public Void visitVariable(VariableTree tree, Void none) {
        Element element = trees.getElement(getCurrentPath());
        if (element.getModifiers().contains(Modifier.STATIC)) {
            rule(5, tree.getName() + " is final", element.getModifiers().contains(Modifier.FINAL));
            String type = element.asType().toString();
            boolean array = CONSTANT_ARRAYS.contains(type) && tree.getInitializer() instanceof NewArrayTree made
                && made.getInitializers() != null;
            rule(5, tree.getName() + " is a constant", array || type.equals("java.lang.String")
                || CONSTANTS.contains(element.asType().getKind()));
        }
        return super.visitVariable(tree, none);
    }

    @Override
    public Void visitMethodInvocation(MethodInvocationTree tree, Void none) {
        Element called = trees.getElement(getCurrentPath());
        String owner = called.getEnclosingElement().toString();
        String name = called.getSimpleName().toString();
        if (owner.equals("StagedTables") || owner.startsWith("StagedTables.")) {
            addCall(called);
        } else if (!name.equals("<init>")) {
            boolean number = Set.of("java.lang.Integer", "java.lang.Long", "java.lang.Math").contains(owner);
            rule(4, owner + "." + name, number ? !name.endsWith("Exact")
                : LIBRARY.getOrDefault(owner, Set.of()).contains(name));
        }
        return super.visitMethodInvocation(tree, none);
    }

    @Override
    public Void visitNewClass(NewClassTree tree, Void none) {
        Element made = trees.getElement(getCurrentPath());
        String owner = made.getEnclosingElement().toString();
        rule(4, "new " + owner, owner.startsWith("StagedTables.") || MADE.contains(owner));
        addCall(made);
        return super.visitNewClass(tree, none);
    }

    /** What stands at a field and not in a method is done by the constructor, a level that is not counted. */
    private void addCall(Element called) {
        if (method != null) {
            calls.get(method).add(called);
        }
    }

    /** Rule 5 speaks of the elements; that the field itself is not changed javac sees to, as it is final. */
    private void changed(ExpressionTree target) {
        if (target instanceof ArrayAccessTree access) {
            Element array = trees.getElement(new TreePath(getCurrentPath(), access.getExpression()));
            rule(5, "no static array is changed", array == null || !array.getModifiers().contains(Modifier.STATIC));
        }
    }

    @Override
    public Void visitAssignment(AssignmentTree tree, Void none) {
        changed(tree.getVariable());
        return super.visitAssignment(tree, none);
    }

    @Override
    public Void visitCompoundAssignment(CompoundAssignmentTree tree, Void none) {
        changed(tree.getVariable());
        return super.visitCompoundAssignment(tree, none);
    }

    @Override
    public Void visitUnary(UnaryTree tree, Void none) {
        changed(tree.getExpression());
        return super.visitUnary(tree, none);
    }

    private static boolean canEnd(ExpressionTree condition) {
        return condition != null && !condition.toString().replaceAll("[()]", "").equals("true");
    }

    @Override
    public Void visitForLoop(ForLoopTree tree, Void none) {
        rule(9, "a loop with an end", canEnd(tree.getCondition()) && !tree.getUpdate().isEmpty());
        return super.visitForLoop(tree, none);
    }

    @Override
    public Void visitWhileLoop(WhileLoopTree tree, Void none) {
        rule(9, "a loop with an end", canEnd(tree.getCondition()));
        return super.visitWhileLoop(tree, none);
    }

    @Override
    public Void visitDoWhileLoop(DoWhileLoopTree tree, Void none) {
        rule(9, "a loop with an end", canEnd(tree.getCondition()));
        return super.visitDoWhileLoop(tree, none);
    }

    @Override
    public Void visitThrow(ThrowTree tree, Void none) {
        rule(6, "no throw", false);
        return null;
    }

    @Override
    public Void visitTry(TryTree tree, Void none) {
        rule(6, "no try", false);
        return null;
    }

    @Override
    public Void visitSynchronized(SynchronizedTree tree, Void none) {
        rule(6, "no synchronized", false);
        return null;
    }

    @Override
    public Void visitAssert(AssertTree tree, Void none) {
        rule(6, "no assert", false);
        return null;
    }

    @Override
    public Void visitLambdaExpression(LambdaExpressionTree tree, Void none) {
        rule(2, "no lambda", false);
        return null;
    }

    @Override
    public Void visitMemberReference(MemberReferenceTree tree, Void none) {
        rule(2, "no method reference", false);
        return null;
    }

    @Override
    public Void visitLiteral(LiteralTree tree, Void none) {
        boolean number = tree.getKind() != Tree.Kind.DOUBLE_LITERAL && tree.getKind() != Tree.Kind.FLOAT_LITERAL;
        rule(3, "the document has whole numbers alone", number);
        return null;
    }

    /** Rules 8 and 11: the class has no recursion, and so its calls are at most eight deep. */
    private void depth() {
        for (Element from : calls.keySet()) {
            int deep = depthOf(from, 1);
            Due.isTrue("rules 8, 11: calls from " + from + " are " + deep + " deep", deep <= DEEPEST);
        }
    }

    private int depthOf(Element from, int open) {
        if (open > DEEPEST) {
            return TOO_DEEP;
        }
        int deepest = 1;
        for (Element to : calls.getOrDefault(from, Set.of())) {
            deepest = Math.max(deepest, 1 + depthOf(to, open + 1));
        }
        return deepest;
    }
}
