import com.sun.source.tree.AssertTree;
import com.sun.source.tree.BinaryTree;
import com.sun.source.tree.BlockTree;
import com.sun.source.tree.ClassTree;
import com.sun.source.tree.CompilationUnitTree;
import com.sun.source.tree.CompoundAssignmentTree;
import com.sun.source.tree.ConditionalExpressionTree;
import com.sun.source.tree.DoWhileLoopTree;
import com.sun.source.tree.ExpressionTree;
import com.sun.source.tree.ForLoopTree;
import com.sun.source.tree.ImportTree;
import com.sun.source.tree.InstanceOfTree;
import com.sun.source.tree.LambdaExpressionTree;
import com.sun.source.tree.LiteralTree;
import com.sun.source.tree.MemberReferenceTree;
import com.sun.source.tree.MethodInvocationTree;
import com.sun.source.tree.MethodTree;
import com.sun.source.tree.NewArrayTree;
import com.sun.source.tree.NewClassTree;
import com.sun.source.tree.SynchronizedTree;
import com.sun.source.tree.ThrowTree;
import com.sun.source.tree.Tree;
import com.sun.source.tree.TryTree;
import com.sun.source.tree.TypeCastTree;
import com.sun.source.tree.VariableTree;
import com.sun.source.tree.WhileLoopTree;
import com.sun.source.util.JavacTask;
import com.sun.source.util.SourcePositions;
import com.sun.source.util.TreePath;
import com.sun.source.util.TreePathScanner;
import com.sun.source.util.Trees;
import java.io.IOException;
import java.nio.file.Path;
import java.util.Arrays;
import java.util.HashSet;
import java.util.List;
import java.util.Set;
import java.util.TreeSet;
import javax.lang.model.element.Element;
import javax.lang.model.element.Modifier;
import javax.lang.model.element.VariableElement;
import javax.lang.model.type.TypeMirror;
import javax.tools.JavaCompiler;
import javax.tools.StandardJavaFileManager;
import javax.tools.ToolProvider;

/** LANGUAGE.md, rule by rule, on the class's own source as the compiler reads it. */
final class RulesTest extends TreePathScanner<Void, Void> {
    private static final Path SOURCE = Path.of("src/main/java/SailingLights.java");

    private static final Set<String> PLAIN_TYPES = new HashSet<>(Arrays.asList(
        "int", "long", "short", "byte", "char", "boolean", "void", "java.lang.String"));

    /** Rule 4, as far as the class uses it, and what a constructor calls by itself. */
    private static final Set<String> LIBRARY = new HashSet<>(Arrays.asList(
        "java.lang.String.length", "java.lang.String.charAt", "java.lang.String.indexOf", "java.lang.Math.max",
        "java.lang.Math.min", "java.lang.Math.abs", "java.lang.Integer.bitCount", "java.lang.System.arraycopy",
        "java.lang.Object.<init>"));

    private static final Set<String> EXCEPTIONS = new HashSet<>(Arrays.asList("IllegalStateException",
        "IllegalArgumentException", "IndexOutOfBoundsException", "ArithmeticException", "UnsupportedOperationException",
        "NoSuchElementException", "RuntimeException"));

    /** All methods that stand in a ring of calls: those that read a law, and those that count matchings. */
    private static final Set<String> RECURSIVE = new TreeSet<>(Arrays.asList("Reader.readExpr", "Reader.readAnd",
        "Reader.readNot", "Reader.readTest", "Reader.readSum", "Reader.readProduct", "Reader.readPart",
        "Matching.stableFrom", "Matching.stableWith"));

    private final Due due = new Due("RulesTest");
    private final CallGraph graph = new CallGraph();
    private final CompilationUnitTree unit;
    private final Trees trees;
    private int classes = 0;
    private int loops = 0;
    private int divisions = 0;

    private RulesTest(CompilationUnitTree unit, Trees trees) {
        this.unit = unit;
        this.trees = trees;
    }

    public static void main(String[] args) throws IOException {
        JavaCompiler compiler = ToolProvider.getSystemJavaCompiler();
        try (StandardJavaFileManager files = compiler.getStandardFileManager(null, null, null)) {
            JavacTask task = (JavacTask) compiler.getTask(null, files, null, null, null, files.getJavaFileObjects(SOURCE));
            CompilationUnitTree unit = task.parse().iterator().next();
            task.analyze();
            new RulesTest(unit, Trees.instance(task)).run();
        }
    }

    private void run() {
        due.rule(1, "one file, one public class, without a package");
        due.is("a package", unit.getPackageName() != null, false);
        due.is("classes of the file", unit.getTypeDecls().size(), 1);
        for (ImportTree used : unit.getImports()) {
            due.rule(4, "only what stands here");
            due.is(used + "", used.getQualifiedIdentifier().toString().equals("java.util.NoSuchElementException"), true);
        }
        scan(unit, null);
        due.rule(11, "at most some twelve classes");
        due.is(classes + " classes", classes >= 2 && classes <= 12, true);
        due.rule(9, "every loop");
        due.is(loops + " loops were looked at", loops > 20, true);
        due.rule(7, "a divisor");
        due.is(divisions + " divisions were looked at", divisions > 5, true);
        due.rule(8, "recursion");
        due.is("in rings of calls " + graph.inRings(), graph.inRings().equals(RECURSIVE), true);
        due.rule(11, "calls that are no recursion go at most eight deep");
        for (String method : graph.methods()) {
            if (method.startsWith("SailingLights.")) {
                List<String> chain = graph.deepestFrom(method);
                due.is(String.join(" > ", chain), chain.size() <= 8, true);
            }
        }
        due.is("the graph has chains", graph.deepestFrom("SailingLights.coast").size() >= 4, true);
        due.end();
    }

    // ---- classes, methods, fields

    private Element elementHere() {
        return trees.getElement(getCurrentPath());
    }

    private static String nameOf(Element method) {
        return method.getEnclosingElement().getSimpleName() + "." + method.getSimpleName();
    }

    private <T extends Tree> T within(Class<T> kind) {
        for (TreePath path = getCurrentPath().getParentPath(); path != null; path = path.getParentPath()) {
            if (kind.isInstance(path.getLeaf())) {
                return kind.cast(path.getLeaf());
            }
        }
        return null;
    }

    private void never(int rule, String words, Tree found) {
        due.rule(rule, words);
        due.is("there is '" + found + "'", true, false);
    }

    @Override
    public Void visitClass(ClassTree tree, Void none) {
        classes++;
        Set<Modifier> modifiers = tree.getModifiers().getFlags();
        boolean outer = getCurrentPath().getParentPath().getLeaf() == unit;
        due.rule(outer ? 1 : 2, "classes");
        due.is(tree.getSimpleName() + " is public", modifiers.contains(Modifier.PUBLIC), outer);
        due.is(tree.getSimpleName() + " is static", modifiers.contains(Modifier.STATIC), !outer);
        due.is(tree.getSimpleName() + " is final", modifiers.contains(Modifier.FINAL), true);
        due.is(tree.getSimpleName() + " is within a method", within(MethodTree.class) != null, false);
        int fields = 0;
        for (Tree member : tree.getMembers()) {
            if (member instanceof VariableTree && !((VariableTree) member).getModifiers().getFlags().contains(Modifier.STATIC)) {
                fields++;
            }
            if (member instanceof BlockTree) {
                never(5, "no static initialiser block", member);
            }
        }
        due.rule(11, "a class some twenty fields beside its constants");
        due.is(tree.getSimpleName() + " has " + fields, fields <= 20, true);
        return super.visitClass(tree, none);
    }

    @Override
    public Void visitMethod(MethodTree tree, Void none) {
        Element element = elementHere();
        String name = nameOf(element);
        graph.add(name);
        due.rule(11, "a method takes at most seven parameters, methods stay short (some sixty lines)");
        due.is(name + " takes " + tree.getParameters().size(), tree.getParameters().size() <= 7, true);
        SourcePositions places = trees.getSourcePositions();
        // The constructor that the compiler adds has no place of its own.
        if (places.getEndPosition(unit, tree) >= 0) {
            long lines = unit.getLineMap().getLineNumber(places.getEndPosition(unit, tree))
                - unit.getLineMap().getLineNumber(places.getStartPosition(unit, tree)) + 1;
            due.is(name + " has " + lines + " lines", lines <= 60, true);
        }
        due.rule(6, "no equals, hashCode or toString of your own objects");
        due.is(name, name.matches(".*\\.(equals|hashCode|toString)"), false);
        if (tree.getReturnType() != null) {
            allowed(tree.getReturnType());
        }
        return super.visitMethod(tree, none);
    }

    @Override
    public Void visitVariable(VariableTree tree, Void none) {
        allowed(tree.getType());
        Set<Modifier> modifiers = tree.getModifiers().getFlags();
        if (modifiers.contains(Modifier.STATIC)) {
            due.rule(5, "static fields are final: constants");
            due.is(tree.getName() + " is final", modifiers.contains(Modifier.FINAL), true);
            Object value = ((VariableElement) elementHere()).getConstantValue();
            due.is(tree.getName() + " is a constant", value != null, true);
        }
        return super.visitVariable(tree, none);
    }

    private void allowed(Tree type) {
        TypeMirror mirror = trees.getTypeMirror(new TreePath(getCurrentPath(), type));
        String name = mirror.toString();
        String element = name.endsWith("[]") ? name.substring(0, name.length() - 2) : name;
        due.rule(3, "types");
        due.is(name, PLAIN_TYPES.contains(element) || element.startsWith("SailingLights"), true);
    }

    // ---- calls and new objects

    @Override
    public Void visitMethodInvocation(MethodInvocationTree tree, Void none) {
        Element called = elementHere();
        boolean own = called.getEnclosingElement().toString().startsWith("SailingLights");
        String name = called.getEnclosingElement() + "." + called.getSimpleName();
        due.rule(4, "the library: only what stands here");
        due.is(name, own || LIBRARY.contains(name), true);
        MethodTree caller = within(MethodTree.class);
        if (caller != null) {
            TreePath path = trees.getPath(unit, caller);
            String from = nameOf(trees.getElement(path));
            if (!called.getSimpleName().contentEquals("<init>")) {
                graph.add(from, nameOf(called));
            }
        }
        return super.visitMethodInvocation(tree, none);
    }

    @Override
    public Void visitNewClass(NewClassTree tree, Void none) {
        due.rule(12, "calls make no objects but the exceptions that they throw");
        boolean thrown = getCurrentPath().getParentPath().getLeaf() instanceof ThrowTree;
        due.is(tree + "", thrown || within(MethodTree.class) == null, true);
        due.rule(2, "no anonymous class is needed");
        due.is(tree + " has a body", tree.getClassBody() != null, false);
        return super.visitNewClass(tree, none);
    }

    @Override
    public Void visitNewArray(NewArrayTree tree, Void none) {
        due.rule(12, "calls make no arrays");
        due.is(tree + "", within(MethodTree.class) == null, true);
        return super.visitNewArray(tree, none);
    }

    // ---- exceptions

    @Override
    public Void visitThrow(ThrowTree tree, Void none) {
        due.rule(6, "throw new E() or throw new E(\"a written text\")");
        ExpressionTree thrown = tree.getExpression();
        boolean written = thrown instanceof NewClassTree;
        if (written) {
            NewClassTree made = (NewClassTree) thrown;
            written = EXCEPTIONS.contains(made.getIdentifier().toString()) && made.getArguments().size() <= 1;
            for (ExpressionTree argument : made.getArguments()) {
                written &= argument.getKind() == Tree.Kind.STRING_LITERAL;
            }
        }
        due.is(tree + "", written, true);
        due.is("in a constructor: " + tree, within(MethodTree.class).getReturnType() == null, false);
        return super.visitThrow(tree, none);
    }

    @Override
    public Void visitTry(TryTree tree, Void none) {
        never(6, "nothing has to be caught: no machine's exception may be", tree);
        return null;
    }

    @Override
    public Void visitSynchronized(SynchronizedTree tree, Void none) {
        never(6, "no synchronized", tree);
        return null;
    }

    @Override
    public Void visitAssert(AssertTree tree, Void none) {
        never(6, "no assert", tree);
        return null;
    }

    @Override
    public Void visitLambdaExpression(LambdaExpressionTree tree, Void none) {
        never(2, "no lambda", tree);
        return null;
    }

    @Override
    public Void visitMemberReference(MemberReferenceTree tree, Void none) {
        never(2, "no method reference", tree);
        return null;
    }

    @Override
    public Void visitInstanceOf(InstanceOfTree tree, Void none) {
        never(6, "no cast that would need a test", tree);
        return null;
    }

    @Override
    public Void visitTypeCast(TypeCastTree tree, Void none) {
        due.rule(7, "casts are among numbers alone, so that none can throw");
        due.is(tree + "", PLAIN_TYPES.contains(tree.getType().toString()), true);
        return super.visitTypeCast(tree, none);
    }

    // ---- numbers and texts

    @Override
    public Void visitBinary(BinaryTree tree, Void none) {
        if (tree.getKind() == Tree.Kind.DIVIDE || tree.getKind() == Tree.Kind.REMAINDER) {
            divisor(tree, tree.getRightOperand());
        }
        if (tree.getKind() == Tree.Kind.PLUS) {
            due.rule(10, "joining texts by StringBuilder (not by +)");
            due.is(tree + "", isText(tree), false);
        }
        if (tree.getKind() == Tree.Kind.EQUAL_TO || tree.getKind() == Tree.Kind.NOT_EQUAL_TO) {
            due.rule(6, "== and != never between two Strings");
            due.is(tree + "", isText(tree.getLeftOperand()) || isText(tree.getRightOperand()), false);
        }
        return super.visitBinary(tree, none);
    }

    private boolean isText(Tree tree) {
        TypeMirror type = trees.getTypeMirror(new TreePath(getCurrentPath(), tree));
        return type != null && type.toString().equals("java.lang.String");
    }

    @Override
    public Void visitCompoundAssignment(CompoundAssignmentTree tree, Void none) {
        if (tree.getKind() == Tree.Kind.DIVIDE_ASSIGNMENT || tree.getKind() == Tree.Kind.REMAINDER_ASSIGNMENT) {
            divisor(tree, tree.getExpression());
        }
        return super.visitCompoundAssignment(tree, none);
    }

    /** It is a constant other than 0, or a ?: round the division asks for it first. */
    private void divisor(Tree division, ExpressionTree by) {
        divisions++;
        due.rule(7, "a divisor is looked at before it divides");
        Object value = by instanceof LiteralTree ? ((LiteralTree) by).getValue() : null;
        Element named = trees.getElement(new TreePath(getCurrentPath(), by));
        if (named instanceof VariableElement) {
            value = ((VariableElement) named).getConstantValue();
        }
        ConditionalExpressionTree round = within(ConditionalExpressionTree.class);
        boolean asked = round != null && round.getCondition().toString().matches("\\(?" + by + " (==|<=) 0\\)?");
        due.is(division + "", value instanceof Integer ? (Integer) value != 0 : asked, true);
    }

    @Override
    public Void visitLiteral(LiteralTree tree, Void none) {
        if (tree.getValue() instanceof String) {
            due.rule(4, "constants, whose signs are 1 to 127");
            due.is("'" + tree + "'", ((String) tree.getValue()).chars().allMatch(c -> c >= 1 && c <= 127), true);
        }
        return super.visitLiteral(tree, none);
    }

    // ---- loops

    @Override
    public Void visitForLoop(ForLoopTree tree, Void none) {
        loops++;
        due.rule(9, "every loop has an end that can be seen from its own lines");
        boolean bounded = tree.getCondition() != null && tree.getCondition().toString().matches(".* (<|<=|>|>=) .*");
        due.is("for of '" + tree.getCondition() + "'", bounded && tree.getUpdate().size() == 1, true);
        return super.visitForLoop(tree, none);
    }

    @Override
    public Void visitWhileLoop(WhileLoopTree tree, Void none) {
        never(9, "all loops are counted", tree);
        return null;
    }

    @Override
    public Void visitDoWhileLoop(DoWhileLoopTree tree, Void none) {
        never(9, "all loops are counted", tree);
        return null;
    }
}
