import com.sun.source.tree.AssertTree;
import com.sun.source.tree.CatchTree;
import com.sun.source.tree.ClassTree;
import com.sun.source.tree.CompilationUnitTree;
import com.sun.source.tree.ImportTree;
import com.sun.source.tree.LambdaExpressionTree;
import com.sun.source.tree.LiteralTree;
import com.sun.source.tree.MemberReferenceTree;
import com.sun.source.tree.MethodInvocationTree;
import com.sun.source.tree.MethodTree;
import com.sun.source.tree.NewClassTree;
import com.sun.source.tree.SynchronizedTree;
import com.sun.source.tree.ThrowTree;
import com.sun.source.tree.Tree;
import com.sun.source.tree.TryTree;
import com.sun.source.tree.VariableTree;
import com.sun.source.util.JavacTask;
import com.sun.source.util.TreeScanner;
import com.sun.source.util.Trees;
import java.nio.file.Path;
import java.util.HashMap;
import java.util.HashSet;
import java.util.List;
import java.util.Map;
import java.util.Set;
import javax.lang.model.element.Modifier;
import javax.tools.JavaCompiler;
import javax.tools.StandardJavaFileManager;
import javax.tools.ToolProvider;

/** What of LANGUAGE.md can be seen from the source of SegmentDesk alone; each thing told bears its rule's number. */
public final class LanguageTest extends TreeScanner<Void, Void> {
    private static final Path SOURCE = Path.of("src/main/java/SegmentDesk.java");
    private static final Set<String> THROWN = Set.of("IllegalStateException", "IllegalArgumentException",
            "IndexOutOfBoundsException", "ArithmeticException", "UnsupportedOperationException",
            "NoSuchElementException", "RuntimeException");
    private static final Set<String> LIBRARY = Set.of("System.arraycopy", "Arrays.fill", "Arrays.copyOf",
            "Arrays.copyOfRange", "Math.max", "Math.min", "Math.abs", "Integer.bitCount");
    private static final Set<String> LIBRARY_CLASSES = Set.of("System", "Arrays", "Math", "Integer", "Long",
            "Double", "Float", "Character", "Boolean", "Objects", "Collections", "String");

    private final Trees trees;
    private final CompilationUnitTree unit;
    private final Map<String, Set<String>> calls = new HashMap<>();
    private int classes;
    private String method = "";

    private LanguageTest(Trees trees, CompilationUnitTree unit) {
        this.trees = trees;
        this.unit = unit;
    }

    public static void main(String[] args) throws Exception {
        JavaCompiler compiler = ToolProvider.getSystemJavaCompiler();
        try (StandardJavaFileManager files = compiler.getStandardFileManager(null, null, null)) {
            JavacTask task = (JavacTask) compiler.getTask(null, files, null, null, null,
                    files.getJavaFileObjects(SOURCE));
            for (CompilationUnitTree unit : task.parse()) {
                LanguageTest test = new LanguageTest(Trees.instance(task), unit);
                test.scan(unit, null);
                test.whole();
            }
        }
        Check.end();
    }

    private void rule(int number, boolean kept, String what) {
        Check.seen();
        if (!kept) {
            Check.tell("rule " + number + ": " + what + (method.isEmpty() ? "" : " in " + method));
        }
    }

    private void whole() {
        rule(1, unit.getPackageName() == null, "a package line");
        rule(11, classes <= 12, "there are " + classes + " classes");
        for (String name : calls.keySet()) {
            int deep = deepest(name, new HashSet<>());
            rule(11, deep <= 8, name + " goes " + deep + " calls deep");
        }
    }

    /** How many calls stand open at once from there on, without those that call themselves again. */
    private int deepest(String name, Set<String> open) {
        if (!calls.containsKey(name) || !open.add(name)) {
            return 0;
        }
        int deep = 0;
        for (String called : calls.get(name)) {
            deep = Math.max(deep, deepest(called, open));
        }
        open.remove(name);
        return deep + 1;
    }

    @Override
    public Void visitImport(ImportTree tree, Void none) {
        String name = tree.getQualifiedIdentifier().toString();
        rule(4, Set.of("java.util.Arrays", "java.util.ArrayList", "java.util.List").contains(name), "import " + name);
        return null;
    }

    @Override
    public Void visitClass(ClassTree tree, Void none) {
        classes++;
        boolean outer = tree.getSimpleName().contentEquals("SegmentDesk");
        Set<Modifier> flags = tree.getModifiers().getFlags();
        rule(1, outer || flags.contains(Modifier.STATIC) && flags.contains(Modifier.PRIVATE),
                tree.getSimpleName() + " is not private and static");
        int fields = 0;
        for (Tree member : tree.getMembers()) {
            rule(5, member.getKind() != Tree.Kind.BLOCK, "an initialiser block");
            if (member instanceof VariableTree field) {
                fields += field.getModifiers().getFlags().contains(Modifier.STATIC) ? 0 : 1;
                staticField(field);
            }
        }
        rule(11, fields <= 20, tree.getSimpleName() + " has " + fields + " fields");
        return super.visitClass(tree, none);
    }

    private void staticField(VariableTree field) {
        Set<Modifier> flags = field.getModifiers().getFlags();
        if (flags.contains(Modifier.STATIC)) {
            rule(5, flags.contains(Modifier.FINAL) && field.getInitializer() != null, field + " is not final");
            rule(5, Set.of("int", "long", "boolean", "char", "String", "int[]", "long[]", "char[]", "byte[]")
                    .contains(field.getType().toString()), field + " is static");
        }
    }

    @Override
    public Void visitMethod(MethodTree tree, Void none) {
        method = tree.getName().toString();
        calls.computeIfAbsent(method, name -> new HashSet<>());
        rule(11, tree.getParameters().size() <= 7, "more than seven parameters");
        long begin = line(trees.getSourcePositions().getStartPosition(unit, tree));
        long end = line(trees.getSourcePositions().getEndPosition(unit, tree));
        rule(11, end - begin < 60, (end - begin + 1) + " lines");
        super.visitMethod(tree, none);
        method = "";
        return null;
    }

    private long line(long position) {
        return unit.getLineMap().getLineNumber(position);
    }

    @Override
    public Void visitMethodInvocation(MethodInvocationTree tree, Void none) {
        String called = tree.getMethodSelect().toString();
        int dot = called.lastIndexOf('.');
        String on = dot < 0 ? "" : called.substring(0, dot);
        rule(4, !LIBRARY_CLASSES.contains(on) || LIBRARY.contains(called), called);
        rule(6, !Set.of("equals", "hashCode", "toString", "getMessage").contains(called.substring(dot + 1)), called);
        if (!LIBRARY_CLASSES.contains(on) && !method.isEmpty()) {
            calls.get(method).add(called.substring(dot + 1));
        }
        return super.visitMethodInvocation(tree, none);
    }

    @Override
    public Void visitThrow(ThrowTree tree, Void none) {
        boolean kept = tree.getExpression() instanceof NewClassTree made
                && THROWN.contains(made.getIdentifier().toString()) && isWritten(made.getArguments());
        rule(6, kept && !method.equals("<init>"), tree.toString());
        return super.visitThrow(tree, none);
    }

    private static boolean isWritten(List<? extends Tree> given) {
        return given.isEmpty() || given.size() == 1 && given.get(0) instanceof LiteralTree;
    }

    @Override
    public Void visitTry(TryTree tree, Void none) {
        rule(6, tree.getFinallyBlock() == null && tree.getResources().isEmpty(), "finally, or a resource");
        return super.visitTry(tree, none);
    }

    @Override
    public Void visitCatch(CatchTree tree, Void none) {
        rule(6, THROWN.contains(tree.getParameter().getType().toString()), "catch of another class");
        return super.visitCatch(tree, none);
    }

    @Override
    public Void visitLambdaExpression(LambdaExpressionTree tree, Void none) {
        rule(2, false, "a lambda");
        return null;
    }

    @Override
    public Void visitMemberReference(MemberReferenceTree tree, Void none) {
        rule(2, false, "a method reference");
        return null;
    }

    @Override
    public Void visitSynchronized(SynchronizedTree tree, Void none) {
        rule(6, false, "synchronized");
        return null;
    }

    @Override
    public Void visitAssert(AssertTree tree, Void none) {
        rule(6, false, "assert");
        return null;
    }
}
