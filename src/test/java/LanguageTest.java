import com.sun.source.tree.AssertTree;
import com.sun.source.tree.BinaryTree;
import com.sun.source.tree.BlockTree;
import com.sun.source.tree.ClassTree;
import com.sun.source.tree.CompilationUnitTree;
import com.sun.source.tree.DoWhileLoopTree;
import com.sun.source.tree.ExpressionTree;
import com.sun.source.tree.ForLoopTree;
import com.sun.source.tree.ImportTree;
import com.sun.source.tree.LambdaExpressionTree;
import com.sun.source.tree.MemberReferenceTree;
import com.sun.source.tree.MethodInvocationTree;
import com.sun.source.tree.MethodTree;
import com.sun.source.tree.NewClassTree;
import com.sun.source.tree.SynchronizedTree;
import com.sun.source.tree.ThrowTree;
import com.sun.source.tree.Tree;
import com.sun.source.tree.TryTree;
import com.sun.source.tree.VariableTree;
import com.sun.source.tree.WhileLoopTree;
import com.sun.source.util.JavacTask;
import com.sun.source.util.TreePath;
import com.sun.source.util.TreePathScanner;
import com.sun.source.util.Trees;
import java.io.IOException;
import java.util.ArrayDeque;
import java.util.Deque;
import java.util.HashMap;
import java.util.HashSet;
import java.util.Map;
import java.util.Set;
import javax.lang.model.element.Element;
import javax.lang.model.element.Modifier;
import javax.lang.model.element.TypeElement;
import javax.lang.model.type.TypeKind;
import javax.lang.model.type.TypeMirror;
import javax.tools.JavaCompiler;
import javax.tools.StandardJavaFileManager;
import javax.tools.ToolProvider;

/** The rules of LANGUAGE.md that can be read off the lines of the program, by their numbers. */
public final class LanguageTest extends TreePathScanner<Void, Void> {
    private static final String PROGRAM = "src/main/java/KeyHall.java";
    private static final int MOST_PARAMETERS = 7;
    private static final int MOST_LINES = 60;
    private static final int MOST_CLASSES = 12;
    private static final int MOST_FIELDS = 20;
    private static final int DEEPEST_CALL = 8;

    private static final Set<String> EXCEPTIONS = Set.of("java.lang.IllegalStateException",
            "java.lang.IllegalArgumentException", "java.lang.IndexOutOfBoundsException",
            "java.lang.ArithmeticException", "java.lang.UnsupportedOperationException",
            "java.util.NoSuchElementException", "java.lang.RuntimeException");
    private static final Set<String> IMPORTS = Set.of("java.util.NoSuchElementException",
            "java.util.ArrayList", "java.util.List", "java.util.Arrays", "java.util.Iterator");
    /** A class with the methods of it that may be called; no name stands for all but ..Exact. */
    private static final Map<String, Set<String>> LIBRARY = Map.of(
            "java.lang.String", Set.of("length", "charAt", "isEmpty", "equals", "indexOf",
                    "substring", "toCharArray"),
            "java.lang.StringBuilder", Set.of("append", "charAt", "setCharAt", "setLength",
                    "deleteCharAt", "reverse", "length", "toString"),
            "java.util.ArrayList", Set.of("add", "get", "set", "remove", "size", "isEmpty", "clear"),
            "java.util.List", Set.of("add", "get", "set", "remove", "size", "isEmpty", "clear", "of"),
            "java.lang.System", Set.of("arraycopy"),
            "java.util.Arrays", Set.of("copyOf", "copyOfRange", "fill"),
            "java.lang.Integer", Set.of(),
            "java.lang.Long", Set.of(),
            "java.lang.Math", Set.of());

    private final CompilationUnitTree unit;
    private final Trees trees;
    private final Map<Element, Set<Element>> calls = new HashMap<>();
    private final Deque<Element> open = new ArrayDeque<>();
    private int classes = 0;
    private int wrong = 0;

    private LanguageTest(CompilationUnitTree unit, Trees trees) {
        this.unit = unit;
        this.trees = trees;
    }

    /** Reads the program, or the file that is named instead. */
    public static void main(String[] args) throws IOException {
        JavaCompiler compiler = ToolProvider.getSystemJavaCompiler();
        StandardJavaFileManager files = compiler.getStandardFileManager(null, null, null);
        String file = args.length == 0 ? PROGRAM : args[0];
        JavacTask task = (JavacTask) compiler.getTask(null, files, null, null, null,
                files.getJavaFileObjects(file));
        CompilationUnitTree unit = task.parse().iterator().next();
        task.analyze();
        LanguageTest test = new LanguageTest(unit, Trees.instance(task));
        test.scan(unit, null);
        test.wholeFile();
        System.out.println(test.calls.size() + " methods and constructors, " + test.wrong
                + " breaches of LANGUAGE.md");
        if (test.wrong != 0 || test.calls.isEmpty()) {
            System.exit(1);
        }
    }

    private void wholeFile() {
        rule(11, classes <= MOST_CLASSES, classes + " classes", unit);
        for (Element method : calls.keySet()) {
            int depth = deepest(method, new HashSet<>());
            rule(11, depth <= DEEPEST_CALL, depth + " calls deep: " + method, unit);
        }
    }

    /** How many methods are open at once from this one on; recursion counts as far too many. */
    private int deepest(Element method, Set<Element> above) {
        if (!above.add(method)) {
            return 1000;
        }
        int deepest = 0;
        for (Element called : calls.getOrDefault(method, Set.of())) {
            deepest = Math.max(deepest, deepest(called, above));
        }
        above.remove(method);
        return 1 + deepest;
    }

    @Override
    public Void visitImport(ImportTree node, Void none) {
        String name = node.getQualifiedIdentifier().toString();
        rule(4, IMPORTS.contains(name), "import of " + name, node);
        return super.visitImport(node, none);
    }

    @Override
    public Void visitClass(ClassTree node, Void none) {
        classes++;
        int fields = 0;
        for (Tree member : node.getMembers()) {
            if (member instanceof VariableTree field) {
                Set<Modifier> modifiers = field.getModifiers().getFlags();
                boolean ofObject = !modifiers.contains(Modifier.STATIC);
                fields += ofObject ? 1 : 0;
                rule(5, ofObject || modifiers.contains(Modifier.FINAL), "static, not final", field);
            }
            if (member instanceof BlockTree block) {
                rule(5, !block.isStatic(), "static initialiser block", block);
            }
        }
        rule(11, fields <= MOST_FIELDS, fields + " fields", node);
        return super.visitClass(node, none);
    }

    @Override
    public Void visitMethod(MethodTree node, Void none) {
        Element method = trees.getElement(getCurrentPath());
        rule(11, node.getParameters().size() <= MOST_PARAMETERS, "parameters", node);
        if (trees.getSourcePositions().getStartPosition(unit, node) >= 0 && node.getBody() != null) {
            rule(11, lines(node) <= MOST_LINES, "lines of a method", node);
        }
        calls.put(method, new HashSet<>());
        open.push(method);
        super.visitMethod(node, none);
        open.pop();
        return null;
    }

    @Override
    public Void visitMethodInvocation(MethodInvocationTree node, Void none) {
        noteCall(node);
        return super.visitMethodInvocation(node, none);
    }

    @Override
    public Void visitNewClass(NewClassTree node, Void none) {
        noteCall(node);
        return super.visitNewClass(node, none);
    }

    private void noteCall(Tree node) {
        Element called = trees.getElement(getCurrentPath());
        String owner = ((TypeElement) called.getEnclosingElement()).getQualifiedName().toString();
        String name = called.getSimpleName().toString();
        if (owner.equals("KeyHall") || owner.startsWith("KeyHall.")) {
            if (!open.isEmpty()) {
                calls.get(open.peek()).add(called);
            }
        } else if (!isSuperOfConstructor(owner, name)) {
            rule(4, isOfLibrary(owner, name), owner + "." + name, node);
        }
    }

    private static boolean isSuperOfConstructor(String owner, String name) {
        return owner.equals("java.lang.Object") && name.equals("<init>");
    }

    private static boolean isOfLibrary(String owner, String name) {
        if (name.equals("<init>")) {
            return EXCEPTIONS.contains(owner) || owner.equals("java.util.ArrayList")
                    || owner.equals("java.lang.String") || owner.equals("java.lang.StringBuilder");
        }
        Set<String> names = LIBRARY.get(owner);
        return names != null && !name.endsWith("Exact") && (names.isEmpty() || names.contains(name));
    }

    @Override
    public Void visitThrow(ThrowTree node, Void none) {
        boolean plain = false;
        if (node.getExpression() instanceof NewClassTree made) {
            plain = made.getArguments().isEmpty() || made.getArguments().size() == 1
                    && made.getArguments().get(0).getKind() == Tree.Kind.STRING_LITERAL;
            TypeMirror type = trees.getTypeMirror(new TreePath(getCurrentPath(), made));
            rule(6, EXCEPTIONS.contains(type.toString()), "throws " + type, node);
        }
        rule(6, plain, "not throw new E() or throw new E(\"a written text\")", node);
        rule(6, !open.peek().getSimpleName().contentEquals("<init>"), "throw in a constructor", node);
        return super.visitThrow(node, none);
    }

    @Override
    public Void visitTry(TryTree node, Void none) {
        rule(6, node.getFinallyBlock() == null, "finally", node);
        rule(6, node.getResources().isEmpty(), "try with resources", node);
        return super.visitTry(node, none);
    }

    @Override
    public Void visitLambdaExpression(LambdaExpressionTree node, Void none) {
        rule(2, false, "lambda", node);
        return super.visitLambdaExpression(node, none);
    }

    @Override
    public Void visitMemberReference(MemberReferenceTree node, Void none) {
        rule(2, false, "method reference", node);
        return super.visitMemberReference(node, none);
    }

    @Override
    public Void visitSynchronized(SynchronizedTree node, Void none) {
        rule(6, false, "synchronized", node);
        return super.visitSynchronized(node, none);
    }

    @Override
    public Void visitAssert(AssertTree node, Void none) {
        rule(6, false, "assert", node);
        return super.visitAssert(node, none);
    }

    @Override
    public Void visitForLoop(ForLoopTree node, Void none) {
        rule(9, hasEnd(node.getCondition()), "loop without an end", node);
        return super.visitForLoop(node, none);
    }

    @Override
    public Void visitWhileLoop(WhileLoopTree node, Void none) {
        rule(9, hasEnd(node.getCondition()), "loop without an end", node);
        return super.visitWhileLoop(node, none);
    }

    @Override
    public Void visitDoWhileLoop(DoWhileLoopTree node, Void none) {
        rule(9, hasEnd(node.getCondition()), "loop without an end", node);
        return super.visitDoWhileLoop(node, none);
    }

    private static boolean hasEnd(ExpressionTree condition) {
        return condition != null && !condition.toString().replaceAll("[()]", "").equals("true");
    }

    @Override
    public Void visitBinary(BinaryTree node, Void none) {
        TypeMirror type = trees.getTypeMirror(getCurrentPath());
        boolean joins = node.getKind() == Tree.Kind.PLUS && type.getKind() == TypeKind.DECLARED;
        rule(10, !joins, "texts joined by +", node);
        return super.visitBinary(node, none);
    }

    private long lines(Tree node) {
        long end = trees.getSourcePositions().getEndPosition(unit, node);
        return lineOf(end) - line(node) + 1;
    }

    private long line(Tree node) {
        return lineOf(trees.getSourcePositions().getStartPosition(unit, node));
    }

    private long lineOf(long position) {
        return unit.getLineMap().getLineNumber(Math.max(position, 0));
    }

    private void rule(int number, boolean kept, String what, Tree where) {
        if (!kept) {
            wrong++;
            System.out.println("rule " + number + ", line " + line(where) + ": " + what);
        }
    }
}
