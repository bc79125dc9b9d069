import com.sun.source.tree.BinaryTree;
import com.sun.source.tree.CompilationUnitTree;
import com.sun.source.tree.CompoundAssignmentTree;
import com.sun.source.tree.MethodInvocationTree;
import com.sun.source.tree.MethodTree;
import com.sun.source.tree.NewClassTree;
import com.sun.source.tree.Tree;
import com.sun.source.tree.VariableTree;
import com.sun.source.util.JavacTask;
import com.sun.source.util.TreePath;
import com.sun.source.util.TreePathScanner;
import com.sun.source.util.Trees;
import java.nio.file.Path;
import java.util.ArrayDeque;
import java.util.Deque;
import java.util.HashMap;
import java.util.LinkedHashSet;
import java.util.Map;
import java.util.Set;
import javax.lang.model.element.Element;
import javax.lang.model.element.ExecutableElement;
import javax.lang.model.element.Modifier;
import javax.lang.model.type.TypeKind;
import javax.lang.model.type.TypeMirror;
import javax.tools.JavaCompiler;
import javax.tools.StandardJavaFileManager;
import javax.tools.ToolProvider;

/** The rules of LANGUAGE.md for which types must be known: how deep calls go, which types and signs are used. Run in the project's folder. */
public final class CallsTest extends TreePathScanner<Void, Void> {
    private static final Path SOURCE = Path.of("src/main/java/YarnPlier.java");
    private static final int MOST_DEEP = 8;
    /** The one method that calls itself: its depth is carried as an argument. */
    private static final String RECURSIVE = "areAlike";

    private final Due due = new Due();
    private final Map<Element, Set<Element>> calls = new HashMap<>();
    private final Deque<Element> open = new ArrayDeque<>();
    private Trees trees;
    private Element outer;

    private void rule(int number, String what, boolean kept) {
        due.holds("LANGUAGE.md rule " + number + ": " + what, kept);
    }

    @Override
    public Void visitMethod(MethodTree tree, Void none) {
        Element method = trees.getElement(getCurrentPath());
        calls.putIfAbsent(method, new LinkedHashSet<>());
        open.push(method);
        super.visitMethod(tree, none);
        open.pop();
        return null;
    }

    @Override
    public Void visitMethodInvocation(MethodInvocationTree tree, Void none) {
        addCall(trees.getElement(new TreePath(getCurrentPath(), tree.getMethodSelect())));
        return super.visitMethodInvocation(tree, none);
    }

    @Override
    public Void visitNewClass(NewClassTree tree, Void none) {
        addCall(trees.getElement(getCurrentPath()));
        return super.visitNewClass(tree, none);
    }

    private void addCall(Element called) {
        if (!open.isEmpty() && !called.getSimpleName().contentEquals("<init>")) {
            calls.get(open.peek()).add(called);
        }
    }

    private int deep(Element method, Deque<Element> above) {
        int deepest = 0;
        above.push(method);
        for (Element called : calls.getOrDefault(method, Set.of())) {
            if (above.contains(called)) {
                rule(8, method + " calls itself", called == method && method.getSimpleName().contentEquals(RECURSIVE)
                    && method.getModifiers().contains(Modifier.PRIVATE) && method.getModifiers().contains(Modifier.STATIC));
            } else {
                deepest = Math.max(deepest, deep(called, above));
            }
        }
        above.pop();
        return deepest + 1;
    }

    @Override
    public Void visitVariable(VariableTree tree, Void none) {
        rule(3, tree.toString(), isFine(trees.getTypeMirror(new TreePath(getCurrentPath(), tree.getType()))));
        return super.visitVariable(tree, none);
    }

    private boolean isFine(TypeMirror type) {
        String name = type.toString();
        return switch (type.getKind()) {
            case INT, LONG, BOOLEAN, CHAR, BYTE -> true;
            case ARRAY -> Set.of("int[]", "boolean[]", "byte[]").contains(name);
            case DECLARED -> name.startsWith("YarnPlier.");
            default -> false;
        };
    }

    @Override
    public Void visitBinary(BinaryTree tree, Void none) {
        boolean masks = Set.of(Tree.Kind.AND, Tree.Kind.OR, Tree.Kind.XOR).contains(tree.getKind());
        TypeKind type = trees.getTypeMirror(getCurrentPath()).getKind();
        rule(10, "masks are of numbers: " + tree, !masks || type != TypeKind.BOOLEAN);
        rule(10, "texts are not joined by +: " + tree, type != TypeKind.DECLARED);
        return super.visitBinary(tree, none);
    }

    @Override
    public Void visitCompoundAssignment(CompoundAssignmentTree tree, Void none) {
        TypeKind type = trees.getTypeMirror(getCurrentPath()).getKind();
        rule(10, "reckoning is of numbers: " + tree, type == TypeKind.INT || type == TypeKind.LONG);
        return super.visitCompoundAssignment(tree, none);
    }

    private void checkDepth() {
        int deepest = 0;
        for (Element method : calls.keySet()) {
            boolean face = method.getModifiers().contains(Modifier.PUBLIC) && method.getEnclosingElement() == outer;
            if (face && method instanceof ExecutableElement) {
                int deep = deep(method, new ArrayDeque<>());
                deepest = Math.max(deepest, deep);
                rule(11, method + " goes " + deep + " deep", deep <= MOST_DEEP);
            }
        }
        rule(11, "calls were found", deepest > 3);
        System.out.println("calls go " + deepest + " deep");
    }

    public static void main(String[] args) throws Exception {
        CallsTest test = new CallsTest();
        JavaCompiler compiler = ToolProvider.getSystemJavaCompiler();
        try (StandardJavaFileManager files = compiler.getStandardFileManager(null, null, null)) {
            JavacTask task = (JavacTask) compiler.getTask(null, files, null, null, null, files.getJavaFileObjects(SOURCE));
            Iterable<? extends CompilationUnitTree> units = task.parse();
            task.analyze();
            test.trees = Trees.instance(task);
            test.outer = task.getElements().getTypeElement("YarnPlier");
            for (CompilationUnitTree unit : units) {
                test.scan(unit, null);
            }
            test.checkDepth();
        }
        test.due.end();
    }
}
