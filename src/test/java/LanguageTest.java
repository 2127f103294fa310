import com.sun.source.tree.AssertTree;
import com.sun.source.tree.BinaryTree;
import com.sun.source.tree.ClassTree;
import com.sun.source.tree.CompilationUnitTree;
import com.sun.source.tree.LambdaExpressionTree;
import com.sun.source.tree.MemberReferenceTree;
import com.sun.source.tree.MethodInvocationTree;
import com.sun.source.tree.MethodTree;
import com.sun.source.tree.NewArrayTree;
import com.sun.source.tree.NewClassTree;
import com.sun.source.tree.SynchronizedTree;
import com.sun.source.tree.ThrowTree;
import com.sun.source.tree.Tree;
import com.sun.source.tree.TryTree;
import com.sun.source.tree.TypeCastTree;
import com.sun.source.tree.VariableTree;
import com.sun.source.tree.WhileLoopTree;
import com.sun.source.util.JavacTask;
import com.sun.source.util.TreePathScanner;
import com.sun.source.util.Trees;
import java.nio.file.Files;
import java.nio.file.Path;
import java.util.HashMap;
import java.util.LinkedHashSet;
import java.util.List;
import java.util.Map;
import java.util.Set;
import java.util.TreeSet;
import javax.lang.model.element.Element;
import javax.lang.model.element.ElementKind;
import javax.lang.model.element.Modifier;
import javax.tools.JavaCompiler;
import javax.tools.StandardJavaFileManager;
import javax.tools.ToolProvider;

/** Rules of LANGUAGE.md that can be seen in the tree of the source: run in the project's folder. */
public final class LanguageTest extends TreePathScanner<Void, Void> {
    private static final Due DUE = new Due("LanguageTest");
    private static final Path SOURCE = Path.of("src/main/java/MindNet.java");
    private static final Set<String> LIBRARY = Set.of("java.lang.Math.abs", "java.lang.Math.min", "java.lang.Math.max",
        "java.lang.Integer.bitCount", "java.lang.Long.compare");
    private static final int MOST_PARAMETERS = 7, MOST_LINES = 60, MOST_CLASSES = 12, MOST_FIELDS = 20, MOST_DEPTH = 8;

    private final Trees trees;
    private final CompilationUnitTree unit;
    private final Map<Element, Set<Element>> calls = new HashMap<>();
    private final Set<String> library = new TreeSet<>();
    private Element method = null;
    private int classes = 0;

    private LanguageTest(Trees trees, CompilationUnitTree unit) {
        this.trees = trees;
        this.unit = unit;
    }

    public static void main(String[] args) throws Exception {
        signs();
        JavaCompiler compiler = ToolProvider.getSystemJavaCompiler();
        StandardJavaFileManager files = compiler.getStandardFileManager(null, null, null);
        JavacTask task = (JavacTask) compiler.getTask(null, files, null, List.of("-proc:none"), null,
            files.getJavaFileObjects(SOURCE));
        CompilationUnitTree unit = task.parse().iterator().next();
        task.analyze();
        LanguageTest test = new LanguageTest(Trees.instance(task), unit);
        test.scan(unit, null);
        test.whole();
        DUE.close();
    }

    private static void signs() throws Exception {
        boolean plain = true;
        for (byte sign : Files.readAllBytes(SOURCE)) {
            plain = plain && sign > 0;
        }
        DUE.holds("signs are 1 to 127", plain);
    }

    private void whole() {
        DUE.holds("rule 4: nothing is imported", unit.getImports().isEmpty());
        DUE.holds("rule 1: no package", unit.getPackage() == null);
        DUE.holds("rule 11: classes: " + classes, classes <= MOST_CLASSES);
        DUE.holds("rule 4: library: " + library, LIBRARY.containsAll(library));
        int deepest = 0;
        for (Element start : calls.keySet()) {
            deepest = Math.max(deepest, depth(start, new LinkedHashSet<>()));
        }
        System.out.println("LanguageTest: calls go " + deepest + " deep");
        DUE.holds("rule 11: calls go " + deepest + " deep", deepest > 1 && deepest <= MOST_DEPTH);
    }

    private int depth(Element from, Set<Element> open) {
        if (!open.add(from)) {
            DUE.holds("no recursion: " + open, false);
            return MOST_DEPTH + 1;
        }
        int deepest = 0;
        for (Element next : calls.getOrDefault(from, Set.of())) {
            deepest = Math.max(deepest, depth(next, open));
        }
        open.remove(from);
        return 1 + deepest;
    }

    private void refuse(String rule, Tree tree) {
        DUE.holds(rule + ": " + tree, false);
    }

    @Override
    public Void visitClass(ClassTree tree, Void none) {
        classes++;
        int fields = 0;
        for (Tree member : tree.getMembers()) {
            boolean isField = member instanceof VariableTree;
            boolean isConstant = isField && ((VariableTree) member).getModifiers().getFlags().contains(Modifier.STATIC);
            fields += isField && !isConstant ? 1 : 0;
            if (isConstant && !((VariableTree) member).getModifiers().getFlags().contains(Modifier.FINAL)) {
                refuse("rule 5", member);
            }
        }
        DUE.holds("rule 11: fields of " + tree.getSimpleName() + ": " + fields, fields <= MOST_FIELDS);
        return super.visitClass(tree, none);
    }

    @Override
    public Void visitMethod(MethodTree tree, Void none) {
        method = trees.getElement(getCurrentPath());
        calls.putIfAbsent(method, new LinkedHashSet<>());
        long first = unit.getLineMap().getLineNumber(trees.getSourcePositions().getStartPosition(unit, tree));
        long end = trees.getSourcePositions().getEndPosition(unit, tree);
        long lines = end < 0 ? 0 : unit.getLineMap().getLineNumber(end) - first + 1;
        DUE.holds("rule 11: lines of " + tree.getName() + ": " + lines, lines <= MOST_LINES);
        DUE.holds("rule 11: parameters of " + tree.getName(), tree.getParameters().size() <= MOST_PARAMETERS);
        super.visitMethod(tree, none);
        method = null;
        return null;
    }

    @Override
    public Void visitMethodInvocation(MethodInvocationTree tree, Void none) {
        Element called = trees.getElement(getCurrentPath());
        String owner = called.getEnclosingElement().toString();
        if (called.getKind() == ElementKind.METHOD && owner.startsWith("MindNet")) {
            calls.computeIfAbsent(method, key -> new LinkedHashSet<>()).add(called);
        } else if (called.getKind() == ElementKind.METHOD) {
            library.add(owner + "." + called.getSimpleName());
            calls.computeIfAbsent(method, key -> new LinkedHashSet<>()).add(called);
        }
        return super.visitMethodInvocation(tree, none);
    }

    /** Objects and rows are made in constructors and where fields are declared, so that no call makes any. */
    private void dueInConstructor(Tree tree) {
        boolean isCall = method != null && method.getKind() != ElementKind.CONSTRUCTOR;
        DUE.holds("rule 12: no call makes an object: " + tree, !isCall);
    }

    @Override
    public Void visitNewClass(NewClassTree tree, Void none) {
        dueInConstructor(tree);
        DUE.holds("rule 2: no class without a name", tree.getClassBody() == null);
        return super.visitNewClass(tree, none);
    }

    @Override
    public Void visitNewArray(NewArrayTree tree, Void none) {
        dueInConstructor(tree);
        return super.visitNewArray(tree, none);
    }

    @Override
    public Void visitThrow(ThrowTree tree, Void none) {
        refuse("rule 6", tree);
        return null;
    }

    @Override
    public Void visitTry(TryTree tree, Void none) {
        refuse("rule 6", tree);
        return null;
    }

    @Override
    public Void visitSynchronized(SynchronizedTree tree, Void none) {
        refuse("rule 6", tree);
        return null;
    }

    @Override
    public Void visitAssert(AssertTree tree, Void none) {
        refuse("rule 6", tree);
        return null;
    }

    @Override
    public Void visitLambdaExpression(LambdaExpressionTree tree, Void none) {
        refuse("rule 2", tree);
        return null;
    }

    @Override
    public Void visitMemberReference(MemberReferenceTree tree, Void none) {
        refuse("rule 2", tree);
        return null;
    }

    /** The loops here all count; one that does not would need a closer look. */
    @Override
    public Void visitWhileLoop(WhileLoopTree tree, Void none) {
        refuse("rule 9", tree);
        return null;
    }

    @Override
    public Void visitTypeCast(TypeCastTree tree, Void none) {
        String type = tree.getType().toString();
        DUE.holds("rule 6: casts are among numbers: " + tree, Set.of("int", "long").contains(type));
        return super.visitTypeCast(tree, none);
    }

    @Override
    public Void visitBinary(BinaryTree tree, Void none) {
        boolean isText = trees.getTypeMirror(getCurrentPath()).toString().equals("java.lang.String");
        DUE.holds("rule 10: no texts joined: " + tree, !isText);
        return super.visitBinary(tree, none);
    }
}
