import com.sun.source.tree.ArrayAccessTree;
import com.sun.source.tree.AssertTree;
import com.sun.source.tree.BinaryTree;
import com.sun.source.tree.ClassTree;
import com.sun.source.tree.CompilationUnitTree;
import com.sun.source.tree.CompoundAssignmentTree;
import com.sun.source.tree.ExpressionTree;
import com.sun.source.tree.IdentifierTree;
import com.sun.source.tree.LambdaExpressionTree;
import com.sun.source.tree.LiteralTree;
import com.sun.source.tree.MemberReferenceTree;
import com.sun.source.tree.MethodInvocationTree;
import com.sun.source.tree.MethodTree;
import com.sun.source.tree.NewArrayTree;
import com.sun.source.tree.NewClassTree;
import com.sun.source.tree.SynchronizedTree;
import com.sun.source.tree.ThrowTree;
import com.sun.source.tree.Tree;
import com.sun.source.tree.TryTree;
import com.sun.source.tree.TypeCastTree;
import com.sun.source.tree.VariableTree;
import com.sun.source.tree.WhileLoopTree;
import com.sun.source.util.JavacTask;
import com.sun.source.util.TreePathScanner;
import com.sun.source.util.TreeScanner;
import com.sun.source.util.Trees;
import java.nio.file.Files;
import java.nio.file.Path;
import java.util.HashMap;
import java.util.LinkedHashSet;
import java.util.List;
import java.util.Map;
import java.util.Set;
import java.util.TreeSet;
import javax.lang.model.element.Element;
import javax.lang.model.element.ElementKind;
import javax.lang.model.element.Modifier;
import javax.tools.JavaCompiler;
import javax.tools.StandardJavaFileManager;
import javax.tools.ToolProvider;

/** Rules of LANGUAGE.md that can be seen in the tree of the source: run in the project's folder. */
public final class LanguageTest extends TreePathScanner<Void, Void> {
    private static final Due DUE = new Due("LanguageTest");
    private static final Path SOURCE = Path.of("src/main/java/MindNet.java");
    private static final Set<String> LIBRARY = Set.of("java.lang.Math.abs", "java.lang.Math.min", "java.lang.Math.max",
        "java.lang.Integer.bitCount", "java.lang.Long.compare");
    private static final int MOST_PARAMETERS = 7, MOST_LINES = 60, MOST_CLASSES = 12, MOST_FIELDS = 20, MOST_DEPTH = 8;

    private final Trees trees;
    private final CompilationUnitTree unit;
    private final Map<Element, Set<Element>> calls = new HashMap<>();
    private final Set<String> library = new TreeSet<>();
    private Element method = null;
    private MethodTree methodTree = null;
    private int classes = 0;

    private LanguageTest(Trees trees, CompilationUnitTree unit) {
        this.trees = trees;
        this.unit = unit;
    }

    public static void main(String[] args) throws Exception {
        signs();
        JavaCompiler compiler = ToolProvider.getSystemJavaCompiler();
        StandardJavaFileManager files = compiler.getStandardFileManager(null, null, null);
        JavacTask task = (JavacTask) compiler.getTask(null, files, null, List.of("-proc:none"), null,
            files.getJavaFileObjects(SOURCE));
        CompilationUnitTree unit = task.parse().iterator().next();
        task.analyze();
        LanguageTest test = new LanguageTest(Trees.instance(task), unit);
        test.scan(unit, null);
        test.whole();
        DUE.close();
    }

    private static void signs() throws Exception {
        boolean plain = true;
        for (byte sign : Files.readAllBytes(SOURCE)) {
            plain = plain && sign > 0;
        }
        DUE.holds("signs are 1 to 127", plain);
    }

    private void whole() {
        DUE.holds("rule 4: nothing is imported", unit.getImports().isEmpty());
        DUE.holds("rule 1: no package", unit.getPackage() == null);
        DUE.holds("rule 11: classes: " + classes, classes <= MOST_CLASSES);
        DUE.holds("rule 4: library: " + library, LIBRARY.containsAll(library));
        int deepest = 0;
        for (Element start : calls.keySet()) {
            deepest = Math.max(deepest, depth(start, new LinkedHashSet<>()));
        }
        System.out.println("LanguageTest: calls go " + deepest + " deep");
        DUE.holds("rule 11: calls go " + deepest + " deep", deepest > 1 && deepest <= MOST_DEPTH);
    }

    private int depth(Element from, Set<Element> open) {
        if (!open.add(from)) {
            DUE.holds("no recursion: " + open, false);
            return MOST_DEPTH + 1;
        }
        int deepest = 0;
        for (Element next : calls.getOrDefault(from, Set.of())) {
            deepest = Math.max(deepest, depth(next, open));
        }
        open.remove(from);
        return 1 + deepest;
    }

    private void refuse(String rule, Tree tree) {
        DUE.holds(rule + ": " + tree, false);
    }

    @Override
    public Void visitClass(ClassTree tree, Void none) {
        classes++;
        int fields = 0;
        for (Tree member : tree.getMembers()) {
            boolean isField = member instanceof VariableTree;
            boolean isConstant = isField && ((VariableTree) member).getModifiers().getFlags().contains(Modifier.STATIC);
            fields += isField && !isConstant ? 1 : 0;
            if (isConstant && !((VariableTree) member).getModifiers().getFlags().contains(Modifier.FINAL)) {
                refuse("rule 5", member);
            }
        }
        DUE.holds("rule 11: fields of " + tree.getSimpleName() + ": " + fields, fields <= MOST_FIELDS);
        return super.visitClass(tree, none);
    }

    @Override
    public Void visitMethod(MethodTree tree, Void none) {
        method = trees.getElement(getCurrentPath());
        methodTree = tree;
        calls.putIfAbsent(method, new LinkedHashSet<>());
        long first = unit.getLineMap().getLineNumber(trees.getSourcePositions().getStartPosition(unit, tree));
        long end = trees.getSourcePositions().getEndPosition(unit, tree);
        long lines = end < 0 ? 0 : unit.getLineMap().getLineNumber(end) - first + 1;
        DUE.holds("rule 11: lines of " + tree.getName() + ": " + lines, lines <= MOST_LINES);
        DUE.holds("rule 11: parameters of " + tree.getName(), tree.getParameters().size() <= MOST_PARAMETERS);
        super.visitMethod(tree, none);
        method = null;
        methodTree = null;
        return null;
    }

    @Override
    public Void visitMethodInvocation(MethodInvocationTree tree, Void none) {
        Element called = trees.getElement(getCurrentPath());
        String owner = called.getEnclosingElement().toString();
        if (called.getKind() == ElementKind.METHOD && owner.startsWith("MindNet")) {
            calls.computeIfAbsent(method, key -> new LinkedHashSet<>()).add(called);
        } else if (called.getKind() == ElementKind.METHOD) {
            library.add(owner + "." + called.getSimpleName());
            calls.computeIfAbsent(method, key -> new LinkedHashSet<>()).add(called);
        }
        return super.visitMethodInvocation(tree, none);
    }

    /** Objects and rows are made in constructors and where fields are declared, so that no call makes any. */
    private void dueInConstructor(Tree tree) {
        boolean isCall = method != null && method.getKind() != ElementKind.CONSTRUCTOR;
        DUE.holds("rule 12: no call makes an object: " + tree, !isCall);
    }

    @Override
    public Void visitNewClass(NewClassTree tree, Void none) {
        dueInConstructor(tree);
        DUE.holds("rule 2: no class without a name", tree.getClassBody() == null);
        return super.visitNewClass(tree, none);
    }

    @Override
    public Void visitNewArray(NewArrayTree tree, Void none) {
        dueInConstructor(tree);
        return super.visitNewArray(tree, none);
    }

    @Override
    public Void visitThrow(ThrowTree tree, Void none) {
        refuse("rule 6", tree);
        return null;
    }

    @Override
    public Void visitTry(TryTree tree, Void none) {
        refuse("rule 6", tree);
        return null;
    }

    @Override
    public Void visitSynchronized(SynchronizedTree tree, Void none) {
        refuse("rule 6", tree);
        return null;
    }

    @Override
    public Void visitAssert(AssertTree tree, Void none) {
        refuse("rule 6", tree);
        return null;
    }

    @Override
    public Void visitLambdaExpression(LambdaExpressionTree tree, Void none) {
        refuse("rule 2", tree);
        return null;
    }

    @Override
    public Void visitMemberReference(MemberReferenceTree tree, Void none) {
        refuse("rule 2", tree);
        return null;
    }

    /** The loops here all count; one that does not would need a closer look. */
    @Override
    public Void visitWhileLoop(WhileLoopTree tree, Void none) {
        refuse("rule 9", tree);
        return null;
    }

    @Override
    public Void visitTypeCast(TypeCastTree tree, Void none) {
        String type = tree.getType().toString();
        DUE.holds("rule 6: casts are among numbers: " + tree, Set.of("int", "long").contains(type));
        return super.visitTypeCast(tree, none);
    }

    /** A number written there, or a name that the same method looks at from below and from above. */
    @Override
    public Void visitArrayAccess(ArrayAccessTree tree, Void none) {
        ExpressionTree index = tree.getIndex();
        boolean isNumber = index instanceof LiteralTree;
        boolean isLookedAt = index instanceof IdentifierTree && methodTree != null
            && new Looks(index.toString()).areBoth(methodTree);
        DUE.holds("rule 7: an index is looked at before it is used: " + tree, isNumber || isLookedAt);
        return super.visitArrayAccess(tree, none);
    }

    @Override
    public Void visitBinary(BinaryTree tree, Void none) {
        boolean isText = trees.getTypeMirror(getCurrentPath()).toString().equals("java.lang.String");
        DUE.holds("rule 10: no texts joined: " + tree, !isText);
        if (tree.getKind() == Tree.Kind.DIVIDE || tree.getKind() == Tree.Kind.REMAINDER) {
            dueDivisor(tree.getRightOperand());
        }
        return super.visitBinary(tree, none);
    }

    /** A number or a constant, neither of them 0, or a name that the same method compares with 0. */
    private void dueDivisor(ExpressionTree divisor) {
        String name = divisor.toString();
        boolean isConstant = divisor instanceof LiteralTree && !name.equals("0") || name.equals("SLOTS");
        boolean isLookedAt = methodTree != null && new Looks(name).isComparedWith0(methodTree);
        DUE.holds("rule 7: a divisor is looked at before it divides: " + divisor, isConstant || isLookedAt);
    }

    @Override
    public Void visitCompoundAssignment(CompoundAssignmentTree tree, Void none) {
        Tree.Kind kind = tree.getKind();
        boolean divides = kind == Tree.Kind.DIVIDE_ASSIGNMENT || kind == Tree.Kind.REMAINDER_ASSIGNMENT;
        DUE.holds("rule 7: a divisor that is not looked at: " + tree, !divides);
        return super.visitCompoundAssignment(tree, none);
    }

    /** What a method does to look at a number by its name; not whether it does so before it uses it. */
    private static final class Looks extends TreeScanner<Void, Void> {
        private static final Set<String> GUARDS = Set.of("has", "isThere", "isPlace");
        /** A field that begins with 0 and is only counted up. */
        private static final String COUNTER = "count";

        private final String name;
        private boolean fromBelow;
        private boolean fromAbove = false;
        private boolean with0 = false;

        Looks(String name) {
            this.name = name;
            fromBelow = name.equals(COUNTER);
        }

        boolean areBoth(MethodTree method) {
            scan(method, null);
            return fromBelow && fromAbove;
        }

        boolean isComparedWith0(MethodTree method) {
            scan(method, null);
            return with0;
        }

        @Override
        public Void visitBinary(BinaryTree tree, Void none) {
            boolean isIt = tree.getLeftOperand().toString().equals(name);
            boolean by0 = tree.getRightOperand().toString().equals("0");
            Tree.Kind kind = tree.getKind();
            fromBelow |= isIt && by0 && (kind == Tree.Kind.GREATER_THAN_EQUAL || kind == Tree.Kind.LESS_THAN);
            fromAbove |= isIt && !by0 && kind == Tree.Kind.LESS_THAN;
            with0 |= isIt && by0 && (kind == Tree.Kind.EQUAL_TO || kind == Tree.Kind.NOT_EQUAL_TO);
            return super.visitBinary(tree, none);
        }

        /** One that is counted from 0 or 1 on. */
        @Override
        public Void visitVariable(VariableTree tree, Void none) {
            boolean isIt = tree.getName().contentEquals(name) && tree.getInitializer() != null;
            fromBelow |= isIt && Set.of("0", "1").contains(tree.getInitializer().toString());
            return super.visitVariable(tree, none);
        }

        @Override
        public Void visitMethodInvocation(MethodInvocationTree tree, Void none) {
            boolean isGuard = GUARDS.contains(tree.getMethodSelect().toString());
            boolean isOfIt = tree.getArguments().size() == 1 && tree.getArguments().get(0).toString().equals(name);
            fromBelow |= isGuard && isOfIt;
            fromAbove |= isGuard && isOfIt;
            return super.visitMethodInvocation(tree, none);
        }
    }
}
