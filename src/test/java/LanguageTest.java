import com.sun.source.tree.AnnotationTree;
import com.sun.source.tree.AssertTree;
import com.sun.source.tree.BinaryTree;
import com.sun.source.tree.ClassTree;
import com.sun.source.tree.CompilationUnitTree;
import com.sun.source.tree.DoWhileLoopTree;
import com.sun.source.tree.ExpressionTree;
import com.sun.source.tree.ForLoopTree;
import com.sun.source.tree.ImportTree;
import com.sun.source.tree.LambdaExpressionTree;
import com.sun.source.tree.LiteralTree;
import com.sun.source.tree.MemberReferenceTree;
import com.sun.source.tree.MethodInvocationTree;
import com.sun.source.tree.MethodTree;
import com.sun.source.tree.NewClassTree;
import com.sun.source.tree.SynchronizedTree;
import com.sun.source.tree.ThrowTree;
import com.sun.source.tree.Tree;
import com.sun.source.tree.TryTree;
import com.sun.source.tree.VariableTree;
import com.sun.source.tree.WhileLoopTree;
import com.sun.source.util.JavacTask;
import com.sun.source.util.TreePathScanner;
import com.sun.source.util.Trees;
import java.io.IOException;
import java.nio.file.Path;
import java.util.ArrayDeque;
import java.util.Deque;
import java.util.HashMap;
import java.util.LinkedHashSet;
import java.util.List;
import java.util.Map;
import java.util.Set;
import java.util.TreeSet;
import javax.lang.model.element.Element;
import javax.lang.model.element.ElementKind;
import javax.lang.model.element.Modifier;
import javax.tools.JavaCompiler;
import javax.tools.StandardJavaFileManager;
import javax.tools.ToolProvider;

/** The program's file keeps to the rules of ../shared/LANGUAGE.md that can be seen in its text. */
public final class LanguageTest extends TreePathScanner<Void, Void> {
    private static final Path PROGRAM = Path.of("src/main/java/LineRules.java");
    private static final Set<String> FACE = Set.of("feed", "clear", "expression", "text", "separator", "rule", "action",
        "forget", "line", "find", "end", "sign", "printed", "counter", "key", "count");
    private static final Set<String> IMPORTS = Set.of("java.util.Arrays", "java.util.NoSuchElementException");
    private static final Set<String> LIBRARY = Set.of("java.util.Arrays.fill", "java.lang.System.arraycopy",
        "java.lang.Math.min", "java.lang.Math.floorMod", "java.lang.Object.<init>");
    private static final Set<String> EXCEPTIONS = Set.of("IllegalStateException", "IllegalArgumentException",
        "IndexOutOfBoundsException", "ArithmeticException", "UnsupportedOperationException", "NoSuchElementException",
        "RuntimeException");
    private static final Set<String> CONSTANTS = Set.of("int", "long", "boolean", "char", "String");

    private final Trees trees;
    private final CompilationUnitTree unit;
    private final Map<Element, Set<Element>> calls = new HashMap<>();
    private final Deque<Element> methods = new ArrayDeque<>();
    private int classes;

    private LanguageTest(Trees trees, CompilationUnitTree unit) {
        this.trees = trees;
        this.unit = unit;
    }

    public static void main(String[] args) throws IOException {
        JavaCompiler compiler = ToolProvider.getSystemJavaCompiler();
        try (StandardJavaFileManager files = compiler.getStandardFileManager(null, null, null)) {
            JavacTask task = (JavacTask) compiler.getTask(null, files, null, List.of("-proc:none"), null,
                files.getJavaFileObjects(PROGRAM));
            CompilationUnitTree unit = task.parse().iterator().next();
            task.analyze();
            LanguageTest test = new LanguageTest(Trees.instance(task), unit);
            test.scan(unit, null);
            test.wholeFile();
            test.depths();
        }
        Check.finish();
    }

    private void holds(int rule, String what, boolean is) {
        Check.due("rule " + rule + ": " + what, is, true);
    }

    private void never(int rule, Tree tree) {
        holds(rule, tree.toString(), false);
    }

    private void wholeFile() {
        holds(1, "no package line", unit.getPackage() == null);
        holds(1, "one class in the file", unit.getTypeDecls().size() == 1);
        holds(11, "at most some twelve classes", classes <= 12);
    }

    @Override
    public Void visitImport(ImportTree tree, Void none) {
        holds(4, tree.toString(), IMPORTS.contains(tree.getQualifiedIdentifier().toString()) && !tree.isStatic());
        return super.visitImport(tree, none);
    }

    @Override
    public Void visitClass(ClassTree tree, Void none) {
        classes++;
        String name = tree.getSimpleName().toString();
        Set<Modifier> flags = tree.getModifiers().getFlags();
        boolean outer = name.equals("LineRules");
        holds(1, name + " is seen", flags.contains(Modifier.PUBLIC) == outer && !flags.contains(Modifier.PROTECTED));
        holds(1, name + " is static", outer || flags.contains(Modifier.STATIC));
        int fields = 0;
        for (Tree member : tree.getMembers()) {
            holds(5, name + " has no block", member.getKind() != Tree.Kind.BLOCK);
            if (member instanceof VariableTree field && !isStatic(field)) {
                fields++;
            }
        }
        holds(11, name + " has at most some twenty fields", fields <= 20);
        return super.visitClass(tree, none);
    }

    private static boolean isStatic(VariableTree tree) {
        return tree.getModifiers().getFlags().contains(Modifier.STATIC);
    }

    @Override
    public Void visitVariable(VariableTree tree, Void none) {
        String type = trees.getElement(getCurrentPath()).asType().toString();
        holds(3, type + " " + tree.getName(), type.matches("(int|long|boolean|LineRules\\.[A-Za-z]+)(\\[\\])?"));
        if (isStatic(tree)) {
            boolean isFinal = tree.getModifiers().getFlags().contains(Modifier.FINAL);
            holds(5, tree.toString(), isFinal && CONSTANTS.contains(tree.getType().toString()));
        }
        return super.visitVariable(tree, none);
    }

    @Override
    public Void visitMethod(MethodTree tree, Void none) {
        String name = tree.getName().toString();
        Element method = trees.getElement(getCurrentPath());
        calls.put(method, new LinkedHashSet<>());
        boolean isPrivate = method.getModifiers().contains(Modifier.PRIVATE);
        holds(1, name + " is no private method with a public one's name", !isPrivate || !FACE.contains(name));
        holds(11, name + " takes at most seven parameters", tree.getParameters().size() <= 7);
        holds(11, name + " has at most some sixty lines", lines(tree) <= 60);
        methods.push(method);
        super.visitMethod(tree, none);
        methods.pop();
        return null;
    }

    private long lines(Tree tree) {
        long begin = trees.getSourcePositions().getStartPosition(unit, tree);
        long end = trees.getSourcePositions().getEndPosition(unit, tree);
        return unit.getLineMap().getLineNumber(end) - unit.getLineMap().getLineNumber(begin) + 1;
    }

    @Override
    public Void visitMethodInvocation(MethodInvocationTree tree, Void none) {
        Element called = trees.getElement(getCurrentPath());
        if (isOwn(called)) {
            calls.get(methods.peek()).add(called);
        } else {
            String name = called.getEnclosingElement() + "." + called.getSimpleName();
            holds(4, name, LIBRARY.contains(name));
        }
        return super.visitMethodInvocation(tree, none);
    }

    private static boolean isOwn(Element method) {
        return method.getEnclosingElement().toString().startsWith("LineRules");
    }

    @Override
    public Void visitNewClass(NewClassTree tree, Void none) {
        holds(2, tree + " has no body of its own", tree.getClassBody() == null);
        Element made = trees.getElement(getCurrentPath());
        holds(4, tree.toString(), isOwn(made) || EXCEPTIONS.contains(tree.getIdentifier().toString()));
        return super.visitNewClass(tree, none);
    }

    @Override
    public Void visitThrow(ThrowTree tree, Void none) {
        boolean written = tree.getExpression() instanceof NewClassTree made
            && EXCEPTIONS.contains(made.getIdentifier().toString())
            && made.getArguments().stream().allMatch(argument -> argument instanceof LiteralTree);
        holds(6, tree.toString(), written && methods.peek().getKind() != ElementKind.CONSTRUCTOR);
        return super.visitThrow(tree, none);
    }

    @Override
    public Void visitTry(TryTree tree, Void none) {
        never(6, tree);
        return null;
    }

    @Override
    public Void visitSynchronized(SynchronizedTree tree, Void none) {
        never(6, tree);
        return null;
    }

    @Override
    public Void visitAssert(AssertTree tree, Void none) {
        never(6, tree);
        return null;
    }

    @Override
    public Void visitLambdaExpression(LambdaExpressionTree tree, Void none) {
        never(2, tree);
        return null;
    }

    @Override
    public Void visitMemberReference(MemberReferenceTree tree, Void none) {
        never(2, tree);
        return null;
    }

    @Override
    public Void visitAnnotation(AnnotationTree tree, Void none) {
        never(4, tree);
        return null;
    }

    /** All loops of the program have a counter and a bound: a while would be looked at by hand. */
    @Override
    public Void visitForLoop(ForLoopTree tree, Void none) {
        ExpressionTree bound = tree.getCondition();
        holds(9, "the bound of for " + bound, bound != null && bound.toString().matches(".*[<>].*"));
        holds(9, "the counter of for " + bound, tree.getUpdate().size() == 1);
        return super.visitForLoop(tree, none);
    }

    @Override
    public Void visitWhileLoop(WhileLoopTree tree, Void none) {
        never(9, tree);
        return null;
    }

    @Override
    public Void visitDoWhileLoop(DoWhileLoopTree tree, Void none) {
        never(9, tree);
        return null;
    }

    @Override
    public Void visitBinary(BinaryTree tree, Void none) {
        String type = String.valueOf(trees.getTypeMirror(getCurrentPath()));
        holds(10, tree + " joins no texts", !type.endsWith("String"));
        return super.visitBinary(tree, none);
    }

    /** Of a recursion each method counts once; what its levels add is kept low by a depth that it carries. */
    private void depths() {
        Set<String> recursive = new TreeSet<>();
        for (Element method : calls.keySet()) {
            if (method.getModifiers().contains(Modifier.PUBLIC)) {
                int depth = depth(method, new LinkedHashSet<>(), recursive);
                holds(11, method + " goes " + depth + " deep, at most eight", depth <= 8);
            }
        }
        Check.due("rule 8: what calls itself again", recursive, Set.of("alternation(int)"));
    }

    private int depth(Element method, Set<Element> open, Set<String> recursive) {
        if (!open.add(method)) {
            recursive.add(method.toString());
            return 0;
        }
        int deepest = 0;
        for (Element called : calls.getOrDefault(method, Set.of())) {
            deepest = Math.max(deepest, depth(called, open, recursive));
        }
        open.remove(method);
        return deepest + 1;
    }
}
