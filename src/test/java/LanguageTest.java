import com.sun.source.tree.AssertTree;
import com.sun.source.tree.BinaryTree;
import com.sun.source.tree.ClassTree;
import com.sun.source.tree.CompilationUnitTree;
import com.sun.source.tree.CompoundAssignmentTree;
import com.sun.source.tree.DoWhileLoopTree;
import com.sun.source.tree.ExpressionTree;
import com.sun.source.tree.ForLoopTree;
import com.sun.source.tree.ImportTree;
import com.sun.source.tree.LambdaExpressionTree;
import com.sun.source.tree.LiteralTree;
import com.sun.source.tree.MemberReferenceTree;
import com.sun.source.tree.MethodInvocationTree;
import com.sun.source.tree.MethodTree;
import com.sun.source.tree.NewArrayTree;
import com.sun.source.tree.NewClassTree;
import com.sun.source.tree.SynchronizedTree;
import com.sun.source.tree.ThrowTree;
import com.sun.source.tree.Tree;
import com.sun.source.tree.TryTree;
import com.sun.source.tree.VariableTree;
import com.sun.source.tree.WhileLoopTree;
import com.sun.source.util.JavacTask;
import com.sun.source.util.SourcePositions;
import com.sun.source.util.TreePath;
import com.sun.source.util.TreePathScanner;
import com.sun.source.util.Trees;
import java.io.IOException;
import java.nio.file.Path;
import java.util.HashSet;
import java.util.LinkedHashMap;
import java.util.LinkedHashSet;
import java.util.List;
import java.util.Map;
import java.util.Set;
import javax.lang.model.element.Element;
import javax.lang.model.element.Modifier;
import javax.lang.model.element.VariableElement;
import javax.tools.JavaCompiler;
import javax.tools.StandardJavaFileManager;
import javax.tools.ToolProvider;

/**
 * The rules of LANGUAGE.md that can be seen in the source. Where the class does with less than a rule
 * leaves it (no try, no recursion, no list), the test asks for the less, which is easier to see.
 */
public final class LanguageTest extends TreePathScanner<Void, Void> {
    private static final Path SOURCE = Path.of("src/main/java/PaperParcels.java");
    private static final int LINES_MOST = 60;
    private static final int PARAMETERS_MOST = 7;
    private static final int FIELDS_MOST = 20;
    private static final int CLASSES_MOST = 12;
    private static final int DEPTH_MOST = 8;
    private static final Set<String> LIBRARY = Set.of("java.lang.String.length", "java.lang.String.charAt",
            "java.lang.Math.min", "java.util.Arrays.fill");
    private static final Set<String> EXCEPTIONS = Set.of("IllegalStateException", "IllegalArgumentException",
            "IndexOutOfBoundsException", "UnsupportedOperationException");

    private final CompilationUnitTree unit;
    private final Trees trees;
    private final SourcePositions positions;
    private final Map<Element, Set<Element>> calls = new LinkedHashMap<>();
    private final Set<String> ownClasses = new HashSet<>();
    private MethodTree method;
    private int classes = 0;

    private LanguageTest(CompilationUnitTree unit, Trees trees) {
        this.unit = unit;
        this.trees = trees;
        positions = trees.getSourcePositions();
    }

    public static void main(String[] args) throws IOException {
        JavaCompiler compiler = ToolProvider.getSystemJavaCompiler();
        try (StandardJavaFileManager files = compiler.getStandardFileManager(null, null, null)) {
            JavacTask task = (JavacTask) compiler.getTask(null, files, null, List.of("-proc:none"), null,
                    files.getJavaFileObjects(SOURCE));
            CompilationUnitTree unit = task.parse().iterator().next();
            task.analyze();
            new LanguageTest(unit, Trees.instance(task)).checkAll();
        }
        Check.finish("LanguageTest");
    }

    private void checkAll() {
        Check.due("rule 1: a package", unit.getPackageName(), null);
        Check.due("rule 1: classes beside it", unit.getTypeDecls().size(), 1);
        for (Tree member : ((ClassTree) unit.getTypeDecls().get(0)).getMembers()) {
            if (member instanceof ClassTree) {
                ownClasses.add(((ClassTree) member).getSimpleName().toString());
            }
        }
        scan(unit, null);
        Check.due("rule 11: classes are at most twelve, not " + classes, classes <= CLASSES_MOST, true);
        for (Element one : calls.keySet()) {
            if (one.getModifiers().contains(Modifier.PUBLIC)) {
                int depth = depthOf(one, new LinkedHashSet<>());
                Check.due("rule 11: calls from " + one + " are at most eight deep, not " + depth,
                        depth <= DEPTH_MOST, true);
            }
        }
    }

    /** How deep the calls from a method on go, itself and the library's methods counted. */
    private int depthOf(Element from, Set<Element> open) {
        if (!open.add(from)) {
            Check.due("rule 8: recursion", open, "none");
            return 0;
        }
        int most = 0;
        for (Element to : calls.getOrDefault(from, Set.of())) {
            most = Math.max(most, depthOf(to, open));
        }
        open.remove(from);
        return most + 1;
    }

    @Override
    public Void visitImport(ImportTree node, Void nothing) {
        due("rule 4: an import", node.getQualifiedIdentifier(), "java.util.Arrays");
        return super.visitImport(node, nothing);
    }

    @Override
    public Void visitClass(ClassTree node, Void nothing) {
        classes++;
        boolean outermost = getCurrentPath().getParentPath().getLeaf() == unit;
        int fields = 0;
        for (Tree member : node.getMembers()) {
            if (member instanceof VariableTree && !isStatic((VariableTree) member)) {
                fields++;
            }
            due("rule 5: a block beside the methods", member.getKind() == Tree.Kind.BLOCK, false);
        }
        due("rule 11: fields are at most twenty, not " + fields, fields <= FIELDS_MOST, true);
        if (!outermost) {
            due("rule 2: a class in a method", method, null);
            due("rule 1: a class inside that is not static",
                    node.getModifiers().getFlags().contains(Modifier.STATIC), true);
        }
        return super.visitClass(node, nothing);
    }

    @Override
    public Void visitMethod(MethodTree node, Void nothing) {
        MethodTree around = method;
        method = node;
        calls.put(element(), new LinkedHashSet<>());
        long lines = line(positions.getEndPosition(unit, node)) - line(positions.getStartPosition(unit, node)) + 1;
        due("rule 11: lines of a method are at most sixty, not " + lines, lines <= LINES_MOST, true);
        due("rule 11: parameters are at most seven", node.getParameters().size() <= PARAMETERS_MOST, true);
        super.visitMethod(node, nothing);
        method = around;
        return null;
    }

    @Override
    public Void visitVariable(VariableTree node, Void nothing) {
        String type = String.valueOf(node.getType());
        due("rule 3: the type " + type, isAllowed(type), true);
        if (isStatic(node)) {
            due("rule 5: a static field that is not final",
                    node.getModifiers().getFlags().contains(Modifier.FINAL), true);
            due("rule 5: a static field that is no constant",
                    ((VariableElement) element()).getConstantValue() != null, true);
        }
        return super.visitVariable(node, nothing);
    }

    private boolean isAllowed(String type) {
        return type.matches("(int|long|boolean)(\\[\\]){0,2}|String")
                || ownClasses.contains(type.replaceFirst("\\[\\]$", ""));
    }

    @Override
    public Void visitNewClass(NewClassTree node, Void nothing) {
        String type = node.getIdentifier().toString();
        if (getCurrentPath().getParentPath().getLeaf() instanceof ThrowTree) {
            due("rule 6: an exception " + type, EXCEPTIONS.contains(type), true);
            due("rule 6: what an exception is made of", node.getArguments().size(), 0);
        } else {
            due("rule 12: an object is made with the object around it alone", isInConstructor(), true);
            due("rule 4: an object of " + type, ownClasses.contains(type), true);
            addCall();
        }
        due("rule 2: a class without a name", node.getClassBody(), null);
        return super.visitNewClass(node, nothing);
    }

    @Override
    public Void visitNewArray(NewArrayTree node, Void nothing) {
        due("rule 12: a row is made with the object around it alone", isInConstructor(), true);
        return super.visitNewArray(node, nothing);
    }

    @Override
    public Void visitMethodInvocation(MethodInvocationTree node, Void nothing) {
        Element called = element();
        String name = called.getEnclosingElement() + "." + called.getSimpleName();
        boolean own = name.startsWith("PaperParcels");
        boolean objects = name.equals("java.lang.Object.<init>");
        due("rule 4: the library's " + name, own || objects || LIBRARY.contains(name), true);
        if (!objects) {
            addCall();
        }
        return super.visitMethodInvocation(node, nothing);
    }

    private void addCall() {
        TreePath path = getCurrentPath();
        while (path.getLeaf() != method) {
            path = path.getParentPath();
        }
        calls.get(trees.getElement(path)).add(element());
    }

    @Override
    public Void visitThrow(ThrowTree node, Void nothing) {
        due("rule 6: a throw in a constructor", isInConstructor(), false);
        due("rule 6: a throw of something old", node.getExpression() instanceof NewClassTree, true);
        return super.visitThrow(node, nothing);
    }

    @Override
    public Void visitBinary(BinaryTree node, Void nothing) {
        checkOperator(node.getKind(), node.getRightOperand());
        boolean texts = isText(node.getLeftOperand()) || isText(node.getRightOperand());
        due("rules 6 and 10: + or == of texts", texts, false);
        return super.visitBinary(node, nothing);
    }

    @Override
    public Void visitCompoundAssignment(CompoundAssignmentTree node, Void nothing) {
        checkOperator(node.getKind(), node.getExpression());
        due("rule 10: + of texts", isText(node.getExpression()), false);
        return super.visitCompoundAssignment(node, nothing);
    }

    private void checkOperator(Tree.Kind kind, ExpressionTree right) {
        if (Set.of(Tree.Kind.DIVIDE, Tree.Kind.REMAINDER, Tree.Kind.DIVIDE_ASSIGNMENT,
                Tree.Kind.REMAINDER_ASSIGNMENT).contains(kind)) {
            boolean safe = right instanceof LiteralTree && !((LiteralTree) right).getValue().equals(0);
            due("rule 7: a divisor that is no number other than 0", safe, true);
        }
    }

    private boolean isText(ExpressionTree operand) {
        return "java.lang.String".equals(String.valueOf(trees.getTypeMirror(new TreePath(getCurrentPath(), operand))));
    }

    @Override
    public Void visitForLoop(ForLoopTree node, Void nothing) {
        checkBound(node.getCondition());
        return super.visitForLoop(node, nothing);
    }

    @Override
    public Void visitWhileLoop(WhileLoopTree node, Void nothing) {
        checkBound(node.getCondition());
        return super.visitWhileLoop(node, nothing);
    }

    @Override
    public Void visitDoWhileLoop(DoWhileLoopTree node, Void nothing) {
        checkBound(node.getCondition());
        return super.visitDoWhileLoop(node, nothing);
    }

    /** A counter against a bound is one of the things that all must hold for another turn. */
    private void checkBound(ExpressionTree condition) {
        String first = String.valueOf(condition).split(" && ")[0];
        due("rule 9: a loop's bound in " + condition, first.matches("\\(*\\w+ (<|<=|>|>=) .*") && !first.contains("||"),
                true);
    }

    @Override
    public Void visitLambdaExpression(LambdaExpressionTree node, Void nothing) {
        return refuse("rule 2: a lambda");
    }

    @Override
    public Void visitMemberReference(MemberReferenceTree node, Void nothing) {
        return refuse("rule 2: a method reference");
    }

    @Override
    public Void visitTry(TryTree node, Void nothing) {
        return refuse("rule 6: a try");
    }

    @Override
    public Void visitSynchronized(SynchronizedTree node, Void nothing) {
        return refuse("rule 6: synchronized");
    }

    @Override
    public Void visitAssert(AssertTree node, Void nothing) {
        return refuse("rule 6: an assert");
    }

    private Void refuse(String what) {
        due(what, "there", "not there");
        return null;
    }

    private void due(String what, Object got, Object want) {
        long line = line(positions.getStartPosition(unit, getCurrentPath().getLeaf()));
        Check.due("line " + line + ", " + what, got, want);
    }

    private long line(long position) {
        return position < 0 ? 0 : unit.getLineMap().getLineNumber(position);
    }

    private Element element() {
        return trees.getElement(getCurrentPath());
    }

    private boolean isInConstructor() {
        return method != null && method.getReturnType() == null;
    }

    private static boolean isStatic(VariableTree field) {
        return field.getModifiers().getFlags().contains(Modifier.STATIC);
    }
}
