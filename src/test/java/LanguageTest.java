import com.sun.source.tree.*;
import com.sun.source.util.JavacTask;
import com.sun.source.util.SourcePositions;
import com.sun.source.util.TreeScanner;
import com.sun.source.util.Trees;
import java.nio.file.Files;
import java.nio.file.Path;
import java.util.ArrayList;
import java.util.List;
import java.util.Set;
import java.util.TreeSet;
import javax.lang.model.element.Modifier;
import javax.tools.JavaCompiler;
import javax.tools.StandardJavaFileManager;
import javax.tools.ToolProvider;

/** The rules of LANGUAGE.md that can be seen in the source. Run in the project's folder. */
public final class LanguageTest extends TreeScanner<Void, Void> {
    private static final Path SOURCE = Path.of("src/main/java/YarnPlier.java");
    private static final Set<Tree.Kind> FORBIDDEN = Set.of(Tree.Kind.THROW, Tree.Kind.TRY, Tree.Kind.CATCH, Tree.Kind.SYNCHRONIZED,
        Tree.Kind.ASSERT, Tree.Kind.LAMBDA_EXPRESSION, Tree.Kind.MEMBER_REFERENCE, Tree.Kind.PACKAGE);
    private static final Set<String> STATIC_TYPES = Set.of("int", "long", "boolean", "char", "String", "int[]", "long[]", "char[]", "byte[]");
    private static final Set<String> LIBRARY = Set.of("Math.abs", "Math.min", "Math.max", "System.arraycopy", "Arrays.fill");
    private static final Set<String> FACE = new TreeSet<>(Set.of("thread", "part", "ply", "clear", "set", "of", "partOf", "leaf", "torque", "tally",
        "kept", "needs", "heavy", "balance", "plan", "can", "alike", "inside", "make", "lay", "skew", "worst", "order", "turned", "fits",
        "job", "do1", "strike", "about", "jobOf", "back", "feed", "wipe", "read", "row", "put", "get", "film", "image", "undo", "count"));

    private final Due due = new Due();
    private CompilationUnitTree unit;
    private SourcePositions positions;
    private int classes;
    private int deep;
    private boolean inCall;

    private void rule(int number, String what, boolean kept) {
        due.holds("LANGUAGE.md rule " + number + ": " + what, kept);
    }

    @Override
    public Void scan(Tree tree, Void none) {
        if (tree != null && FORBIDDEN.contains(tree.getKind())) {
            rule(6, tree.toString(), false);
        }
        return super.scan(tree, none);
    }

    @Override
    public Void visitImport(ImportTree tree, Void none) {
        rule(4, tree.toString(), tree.getQualifiedIdentifier().toString().equals("java.util.Arrays"));
        return null;
    }

    @Override
    public Void visitClass(ClassTree tree, Void none) {
        classes++;
        Set<Modifier> flags = tree.getModifiers().getFlags();
        String name = tree.getSimpleName().toString();
        rule(2, "a name of its own: " + name, !name.isEmpty());
        rule(2, name + " stands in the outer class and is static", deep == 0 || deep == 1 && flags.contains(Modifier.STATIC));
        rule(1, name + " is private or the face", deep == 0 || flags.contains(Modifier.PRIVATE));
        int fields = 0;
        for (Tree member : tree.getMembers()) {
            if (member instanceof VariableTree field) {
                fields += field.getModifiers().getFlags().contains(Modifier.STATIC) ? 0 : 1;
                checkField(field);
            }
            rule(5, "a static block", !(member instanceof BlockTree));
        }
        rule(11, name + " has " + fields + " fields", fields <= 20);
        deep++;
        super.visitClass(tree, none);
        deep--;
        return null;
    }

    private void checkField(VariableTree field) {
        Set<Modifier> flags = field.getModifiers().getFlags();
        String name = field.getName().toString();
        if (flags.contains(Modifier.STATIC)) {
            rule(5, name, flags.contains(Modifier.FINAL) && STATIC_TYPES.contains(field.getType().toString()));
        }
        boolean told = Set.of("BAD", "NOT", "FULL", "STATE", "VOID").contains(name);
        if (deep == 0) {
            rule(1, name, flags.contains(told ? Modifier.PUBLIC : Modifier.PRIVATE));
        }
    }

    @Override
    public Void visitMethod(MethodTree tree, Void none) {
        String name = tree.getName().toString();
        long first = unit.getLineMap().getLineNumber(positions.getStartPosition(unit, tree));
        long last = unit.getLineMap().getLineNumber(positions.getEndPosition(unit, tree));
        rule(11, name + " has " + (last - first + 1) + " lines", last - first < 60);
        rule(11, name + " has " + tree.getParameters().size() + " parameters", tree.getParameters().size() <= 7);
        boolean open = deep == 1 && tree.getModifiers().getFlags().contains(Modifier.PUBLIC);
        boolean closed = deep > 1 || tree.getModifiers().getFlags().contains(Modifier.PRIVATE);
        rule(1, name + " is of the face or closed", name.equals("<init>") || (FACE.contains(name) ? open : closed));
        inCall = !name.equals("<init>");
        super.visitMethod(tree, none);
        inCall = false;
        return null;
    }

    @Override
    public Void visitMethodInvocation(MethodInvocationTree tree, Void none) {
        String called = tree.getMethodSelect().toString();
        if (Character.isUpperCase(called.charAt(0))) {
            rule(4, called, LIBRARY.contains(called));
        }
        return super.visitMethodInvocation(tree, none);
    }

    @Override
    public Void visitNewArray(NewArrayTree tree, Void none) {
        rule(12, "arrays are made by fields and constructors alone: " + tree, !inCall);
        return super.visitNewArray(tree, none);
    }

    @Override
    public Void visitNewClass(NewClassTree tree, Void none) {
        rule(12, "objects are made by fields and constructors alone: " + tree, !inCall);
        return super.visitNewClass(tree, none);
    }

    private void check(Tree top) {
        scan(top, null);
        rule(11, classes + " classes", classes <= 12);
    }

    private void checkFace() {
        List<String> open = new ArrayList<>();
        for (java.lang.reflect.Method method : YarnPlier.class.getDeclaredMethods()) {
            if (!java.lang.reflect.Modifier.isPrivate(method.getModifiers()) && !method.isSynthetic()) {
                open.add(method.getName());
            }
        }
        open.sort(null);
        rule(1, "the face: " + open, open.equals(new ArrayList<>(FACE)));
        rule(1, "one constructor", YarnPlier.class.getConstructors().length == 1);
        rule(1, "five constants", YarnPlier.class.getFields().length == 5);
    }

    public static void main(String[] args) throws Exception {
        LanguageTest test = new LanguageTest();
        JavaCompiler compiler = ToolProvider.getSystemJavaCompiler();
        try (StandardJavaFileManager files = compiler.getStandardFileManager(null, null, null)) {
            JavacTask task = (JavacTask) compiler.getTask(null, files, null, null, null, files.getJavaFileObjects(SOURCE));
            test.positions = Trees.instance(task).getSourcePositions();
            for (CompilationUnitTree unit : task.parse()) {
                test.unit = unit;
                test.check(unit);
            }
        }
        for (char sign : Files.readString(SOURCE).toCharArray()) {
            if (sign > 126) {
                test.rule(4, "a sign beyond 127", false);
            }
        }
        test.checkFace();
        test.due.end();
    }
}
