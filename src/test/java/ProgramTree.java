import com.sun.source.tree.AssertTree;
import com.sun.source.tree.BinaryTree;
import com.sun.source.tree.BlockTree;
import com.sun.source.tree.ClassTree;
import com.sun.source.tree.CompilationUnitTree;
import com.sun.source.tree.CompoundAssignmentTree;
import com.sun.source.tree.ConditionalExpressionTree;
import com.sun.source.tree.DoWhileLoopTree;
import com.sun.source.tree.ExpressionTree;
import com.sun.source.tree.ForLoopTree;
import com.sun.source.tree.IdentifierTree;
import com.sun.source.tree.IfTree;
import com.sun.source.tree.LambdaExpressionTree;
import com.sun.source.tree.MemberReferenceTree;
import com.sun.source.tree.MethodInvocationTree;
import com.sun.source.tree.MethodTree;
import com.sun.source.tree.NewArrayTree;
import com.sun.source.tree.NewClassTree;
import com.sun.source.tree.SynchronizedTree;
import com.sun.source.tree.ThrowTree;
import com.sun.source.tree.Tree;
import com.sun.source.tree.TryTree;
import com.sun.source.tree.VariableTree;
import com.sun.source.tree.WhileLoopTree;
import com.sun.source.util.JavacTask;
import com.sun.source.util.TreePath;
import com.sun.source.util.TreePathScanner;
import com.sun.source.util.TreeScanner;
import com.sun.source.util.Trees;
import java.io.IOException;
import java.nio.file.Path;
import java.util.ArrayList;
import java.util.HashSet;
import java.util.List;
import java.util.Map;
import java.util.Set;
import java.util.TreeMap;
import java.util.TreeSet;
import javax.lang.model.element.Element;
import javax.lang.model.element.ElementKind;
import javax.lang.model.element.Modifier;
import javax.lang.model.element.VariableElement;
import javax.tools.JavaCompiler;
import javax.tools.StandardJavaFileManager;
import javax.tools.ToolProvider;

/** What the compiler sees in the program, as far as the rules of LANGUAGE.md ask for it. */
final class ProgramTree extends TreePathScanner<Void, Void> {

    /** For each method of the program, as "Class.method(types)", what it calls: its own and the library's alike. */
    final Map<String, Set<String>> calls = new TreeMap<>();
    /** For each method its length in lines. */
    final Map<String, Long> lengths = new TreeMap<>();
    /** The types of all fields, parameters and variables. */
    final Set<String> types = new TreeSet<>();
    /** The library's methods that are called, with their parameters' types. */
    final Set<String> library = new TreeSet<>();
    /** What is thrown, as it is written. */
    final List<String> thrown = new ArrayList<>();
    /** Where an object or an array is made: "made in where". */
    final List<String> makings = new ArrayList<>();
    /** Static fields as "modifiers type". */
    final List<String> statics = new ArrayList<>();
    /** Divisors that are no constants and that no condition of their method looks at. */
    final List<String> blindDivisors = new ArrayList<>();
    /** Kinds of code that the rules leave out. */
    final List<String> leftOut = new ArrayList<>();
    final List<String> classes = new ArrayList<>();

    private final Trees trees;
    private final CompilationUnitTree unit;

    private ProgramTree(Trees trees, CompilationUnitTree unit) {
        this.trees = trees;
        this.unit = unit;
    }

    static ProgramTree read(Path source) throws IOException {
        JavaCompiler compiler = ToolProvider.getSystemJavaCompiler();
        try (StandardJavaFileManager files = compiler.getStandardFileManager(null, null, null)) {
            JavacTask task = (JavacTask) compiler.getTask(null, files, null, List.of("-proc:none"), null,
                    files.getJavaFileObjects(source));
            CompilationUnitTree unit = task.parse().iterator().next();
            task.analyze();
            ProgramTree tree = new ProgramTree(Trees.instance(task), unit);
            tree.scan(unit, null);
            return tree;
        }
    }

    // ---- where it stands

    private Element here() {
        return trees.getElement(getCurrentPath());
    }

    private <T extends Tree> T around(Class<T> kind) {
        for (TreePath path = getCurrentPath().getParentPath(); path != null; path = path.getParentPath()) {
            if (kind.isInstance(path.getLeaf())) {
                return kind.cast(path.getLeaf());
            }
        }
        return null;
    }

    private static String nameOf(Element element) {
        Element owner = element.getEnclosingElement();
        return owner.getSimpleName() + "." + element;
    }

    /** The method that holds what is looked at; a field's initialiser belongs to the constructors. */
    private String holder() {
        MethodTree method = around(MethodTree.class);
        if (method == null) {
            return "a field";
        }
        return nameOf(trees.getElement(trees.getPath(unit, method)));
    }

    private boolean isOwn(Element element) {
        for (Element at = element; at != null; at = at.getEnclosingElement()) {
            if (at.getSimpleName().contentEquals("MirrorTelegraph")) {
                return true;
            }
        }
        return false;
    }

    private void leaveOut(String kind, Tree tree) {
        leftOut.add(kind + ": " + tree.toString().lines().findFirst().orElse(""));
    }

    // ---- classes, methods and fields

    @Override
    public Void visitClass(ClassTree tree, Void none) {
        classes.add(tree.getSimpleName().toString());
        if (around(MethodTree.class) != null) {
            leaveOut("a class in a method", tree);
        }
        for (Tree member : tree.getMembers()) {
            if (member instanceof BlockTree) {
                leaveOut("an initialiser block", member);
            }
        }
        return super.visitClass(tree, none);
    }

    @Override
    public Void visitMethod(MethodTree tree, Void none) {
        String name = nameOf(here());
        calls.computeIfAbsent(name, key -> new TreeSet<>());
        long first = unit.getLineMap().getLineNumber(trees.getSourcePositions().getStartPosition(unit, tree));
        long last = unit.getLineMap().getLineNumber(trees.getSourcePositions().getEndPosition(unit, tree));
        lengths.put(name, last - first + 1);
        return super.visitMethod(tree, none);
    }

    @Override
    public Void visitVariable(VariableTree tree, Void none) {
        Element variable = here();
        types.add(variable.asType().toString());
        if (variable.getKind() == ElementKind.FIELD && variable.getModifiers().contains(Modifier.STATIC)) {
            boolean fixed = variable.getModifiers().contains(Modifier.FINAL);
            statics.add((fixed ? "final " : "") + variable.asType());
        }
        return super.visitVariable(tree, none);
    }

    // ---- calls and makings

    private void enterCall(Element called) {
        if (called == null || called.getKind() == ElementKind.CONSTRUCTOR && !isOwn(called)) {
            return;
        }
        calls.computeIfAbsent(holder(), key -> new TreeSet<>()).add(nameOf(called));
        if (!isOwn(called)) {
            library.add(nameOf(called));
        }
    }

    @Override
    public Void visitMethodInvocation(MethodInvocationTree tree, Void none) {
        enterCall(here());
        return super.visitMethodInvocation(tree, none);
    }

    @Override
    public Void visitNewClass(NewClassTree tree, Void none) {
        Element constructor = here();
        enterCall(constructor);
        if (!(getCurrentPath().getParentPath().getLeaf() instanceof ThrowTree)) {
            makings.add(constructor.getEnclosingElement().getSimpleName() + " in " + holder());
        }
        return super.visitNewClass(tree, none);
    }

    @Override
    public Void visitNewArray(NewArrayTree tree, Void none) {
        makings.add("an array in " + holder());
        return super.visitNewArray(tree, none);
    }

    @Override
    public Void visitThrow(ThrowTree tree, Void none) {
        thrown.add(tree.getExpression().toString());
        MethodTree method = around(MethodTree.class);
        if (method == null || method.getReturnType() == null) {
            leaveOut("a throw in a constructor", tree);
        }
        return super.visitThrow(tree, none);
    }

    // ---- divisions

    private static Set<String> namesIn(Tree tree) {
        Set<String> names = new HashSet<>();
        new TreeScanner<Void, Void>() {
            @Override
            public Void visitIdentifier(IdentifierTree name, Void none) {
                names.add(name.getName().toString());
                return null;
            }
        }.scan(tree, null);
        return names;
    }

    private static Set<String> namesInConditions(Tree method) {
        Set<String> names = new HashSet<>();
        new TreeScanner<Void, Void>() {
            @Override
            public Void visitIf(IfTree tree, Void none) {
                names.addAll(namesIn(tree.getCondition()));
                return super.visitIf(tree, none);
            }

            @Override
            public Void visitConditionalExpression(ConditionalExpressionTree tree, Void none) {
                names.addAll(namesIn(tree.getCondition()));
                return super.visitConditionalExpression(tree, none);
            }
        }.scan(method, null);
        return names;
    }

    private boolean isConstant(String name, TreePath path) {
        TreePath[] found = new TreePath[1];
        new TreePathScanner<Void, Void>() {
            @Override
            public Void visitIdentifier(IdentifierTree tree, Void none) {
                if (tree.getName().contentEquals(name)) {
                    found[0] = getCurrentPath();
                }
                return null;
            }
        }.scan(path, null);
        Element element = found[0] == null ? null : trees.getElement(found[0]);
        return element instanceof VariableElement
                && ((VariableElement) element).getConstantValue() instanceof Integer
                && (Integer) ((VariableElement) element).getConstantValue() != 0;
    }

    private void lookAtDivisor(ExpressionTree divisor) {
        Set<String> names = namesIn(divisor);
        TreePath path = new TreePath(getCurrentPath(), divisor);
        names.removeIf(name -> isConstant(name, path));
        names.removeAll(namesInConditions(around(MethodTree.class)));
        if (!names.isEmpty() || divisor.toString().equals("0")) {
            blindDivisors.add(divisor + " in " + holder());
        }
    }

    @Override
    public Void visitBinary(BinaryTree tree, Void none) {
        boolean divides = tree.getKind() == Tree.Kind.DIVIDE || tree.getKind() == Tree.Kind.REMAINDER;
        if (divides && around(MethodTree.class) != null) {
            lookAtDivisor(tree.getRightOperand());
        }
        if (tree.getKind() == Tree.Kind.PLUS && trees.getTypeMirror(getCurrentPath()).toString().contains("String")) {
            leaveOut("texts joined by +", tree);
        }
        return super.visitBinary(tree, none);
    }

    @Override
    public Void visitCompoundAssignment(CompoundAssignmentTree tree, Void none) {
        if (tree.getKind() == Tree.Kind.DIVIDE_ASSIGNMENT || tree.getKind() == Tree.Kind.REMAINDER_ASSIGNMENT) {
            lookAtDivisor(tree.getExpression());
        }
        return super.visitCompoundAssignment(tree, none);
    }

    // ---- loops without an end, and what else the rules leave out

    @Override
    public Void visitForLoop(ForLoopTree tree, Void none) {
        if (tree.getCondition() == null || tree.getUpdate().isEmpty()) {
            leaveOut("a loop without an end", tree);
        }
        return super.visitForLoop(tree, none);
    }

    private void lookAtCondition(ExpressionTree condition, Tree loop) {
        if (namesIn(condition).isEmpty()) {
            leaveOut("a loop without an end", loop);
        }
    }

    @Override
    public Void visitWhileLoop(WhileLoopTree tree, Void none) {
        lookAtCondition(tree.getCondition(), tree);
        return super.visitWhileLoop(tree, none);
    }

    @Override
    public Void visitDoWhileLoop(DoWhileLoopTree tree, Void none) {
        lookAtCondition(tree.getCondition(), tree);
        return super.visitDoWhileLoop(tree, none);
    }

    @Override
    public Void visitLambdaExpression(LambdaExpressionTree tree, Void none) {
        leaveOut("a lambda", tree);
        return super.visitLambdaExpression(tree, none);
    }

    @Override
    public Void visitMemberReference(MemberReferenceTree tree, Void none) {
        leaveOut("a method reference", tree);
        return super.visitMemberReference(tree, none);
    }

    @Override
    public Void visitSynchronized(SynchronizedTree tree, Void none) {
        leaveOut("synchronized", tree);
        return super.visitSynchronized(tree, none);
    }

    @Override
    public Void visitAssert(AssertTree tree, Void none) {
        leaveOut("assert", tree);
        return super.visitAssert(tree, none);
    }

    /** The rules let code catch what it throws itself; this program has no need of it. */
    @Override
    public Void visitTry(TryTree tree, Void none) {
        leaveOut("try", tree);
        return super.visitTry(tree, none);
    }
}
