import com.sun.source.tree.AssertTree;
import com.sun.source.tree.BinaryTree;
import com.sun.source.tree.ClassTree;
import com.sun.source.tree.CompilationUnitTree;
import com.sun.source.tree.CompoundAssignmentTree;
import com.sun.source.tree.DoWhileLoopTree;
import com.sun.source.tree.ExpressionTree;
import com.sun.source.tree.ForLoopTree;
import com.sun.source.tree.ImportTree;
import com.sun.source.tree.LambdaExpressionTree;
import com.sun.source.tree.LiteralTree;
import com.sun.source.tree.MemberReferenceTree;
import com.sun.source.tree.MethodInvocationTree;
import com.sun.source.tree.MethodTree;
import com.sun.source.tree.NewClassTree;
import com.sun.source.tree.SynchronizedTree;
import com.sun.source.tree.ThrowTree;
import com.sun.source.tree.Tree;
import com.sun.source.tree.TryTree;
import com.sun.source.tree.VariableTree;
import com.sun.source.tree.WhileLoopTree;
import com.sun.source.util.JavacTask;
import com.sun.source.util.TreePath;
import com.sun.source.util.TreePathScanner;
import com.sun.source.util.Trees;
import java.io.File;
import java.io.IOException;
import java.util.HashMap;
import java.util.LinkedHashMap;
import java.util.LinkedHashSet;
import java.util.List;
import java.util.Map;
import java.util.Set;
import java.util.TreeSet;
import javax.lang.model.element.Element;
import javax.lang.model.element.ElementKind;
import javax.lang.model.element.ExecutableElement;
import javax.lang.model.element.Modifier;
import javax.lang.model.element.TypeElement;
import javax.lang.model.util.Elements;
import javax.tools.JavaCompiler;
import javax.tools.StandardJavaFileManager;
import javax.tools.ToolProvider;

/**
 * The class keeps to the rules of ../shared/LANGUAGE.md, as far as its source tells. Where a rule allows more than the
 * class needs (try, while, lists of Integer ..), what it does not need is told here, too: then look at the rule.
 */
final class LanguageTest extends TreePathScanner<Void, Void> {
    private static final File SOURCE = new File("src/main/java/Dominofs.java");
    private static final int MOST_PARAMETERS = 7;
    private static final int MOST_LINES = 60;
    private static final int MOST_CLASSES = 12;
    private static final int MOST_FIELDS = 20;
    private static final int MOST_DEPTH = 8;
    private static final Set<String> IMPORTS = Set.of("java.util.ArrayList", "java.util.NoSuchElementException");
    private static final Set<String> LIBRARY = Set.of("ArrayList.add", "ArrayList.get", "ArrayList.remove",
            "ArrayList.size", "Math.min", "Math.max", "Integer.bitCount", "System.arraycopy", "Object.<init>");
    private static final Set<String> EXCEPTIONS = Set.of("IllegalStateException", "IllegalArgumentException",
            "IndexOutOfBoundsException", "ArithmeticException", "UnsupportedOperationException",
            "NoSuchElementException", "RuntimeException");
    private static final String TYPES = "(int|long|short|byte|char|boolean|double|float|String|House|Bets|Game|Table"
            + "|Entry|ArrayList<(House|Entry|Table)>)(\\[\\])?";
    private static final String CONSTANTS = "int|long|boolean|char|String|(int|long|char|byte)\\[\\]";

    private final Checks checks;
    private final Trees trees;
    private final Elements elements;
    private final Map<ExecutableElement, Set<ExecutableElement>> calls = new LinkedHashMap<>();
    private final Map<ExecutableElement, Integer> depths = new HashMap<>();
    private int classes;

    private LanguageTest(Checks checks, JavacTask task) {
        this.checks = checks;
        trees = Trees.instance(task);
        elements = task.getElements();
    }

    static void run(Checks checks) {
        JavaCompiler compiler = ToolProvider.getSystemJavaCompiler();
        try (StandardJavaFileManager files = compiler.getStandardFileManager(null, null, null)) {
            JavacTask task = (JavacTask) compiler.getTask(null, files, null, List.of("-proc:none"), null,
                    files.getJavaFileObjects(SOURCE));
            LanguageTest test = new LanguageTest(checks, task);
            Iterable<? extends CompilationUnitTree> units = task.parse();
            task.analyze();
            test.scan(units, null);
            test.due(11, "some twelve classes", test.classes <= MOST_CLASSES);
            test.measureDepth();
        } catch (IOException e) {
            checks.due("the source is read", "it is", e.toString());
        }
    }

    private void due(int rule, String what, boolean isSo) {
        checks.due("LANGUAGE.md, rule " + rule + ": " + what, true, isSo);
    }

    private void refuse(int rule, Tree tree) {
        due(rule, "not here: " + tree, false);
    }

    private Element element(Tree tree) {
        return trees.getElement(trees.getPath(getCurrentPath().getCompilationUnit(), tree));
    }

    private Element element() {
        return trees.getElement(getCurrentPath());
    }

    private String typeOf(Tree tree) {
        return String.valueOf(trees.getTypeMirror(trees.getPath(getCurrentPath().getCompilationUnit(), tree)));
    }

    private static boolean isOwn(Element element) {
        return element.toString().startsWith("Dominofs") || isOwnInside(element.getEnclosingElement());
    }

    private static boolean isOwnInside(Element outer) {
        return outer != null && outer.getKind() != ElementKind.PACKAGE && isOwn(outer);
    }

    @Override
    public Void visitCompilationUnit(CompilationUnitTree unit, Void nothing) {
        due(1, "no package line", unit.getPackageName() == null);
        return super.visitCompilationUnit(unit, nothing);
    }

    @Override
    public Void visitImport(ImportTree line, Void nothing) {
        due(4, "an import of what it lists: " + line, IMPORTS.contains(line.getQualifiedIdentifier().toString()));
        return super.visitImport(line, nothing);
    }

    @Override
    public Void visitClass(ClassTree tree, Void nothing) {
        classes++;
        Set<Modifier> modifiers = tree.getModifiers().getFlags();
        boolean isFace = tree.getSimpleName().contentEquals("Dominofs");
        due(2, "a class, static and private inside: " + tree.getSimpleName(), isFace
                || modifiers.contains(Modifier.STATIC) && modifiers.contains(Modifier.PRIVATE));
        int fields = 0;
        for (Tree member : tree.getMembers()) {
            boolean isField = member.getKind() == Tree.Kind.VARIABLE;
            due(5, "no static block in " + tree.getSimpleName(), member.getKind() != Tree.Kind.BLOCK);
            fields += isField && !((VariableTree) member).getModifiers().getFlags().contains(Modifier.STATIC) ? 1 : 0;
        }
        due(11, "some twenty fields: " + tree.getSimpleName(), fields <= MOST_FIELDS);
        return super.visitClass(tree, nothing);
    }

    @Override
    public Void visitVariable(VariableTree tree, Void nothing) {
        String type = String.valueOf(tree.getType());
        Set<Modifier> modifiers = tree.getModifiers().getFlags();
        due(3, "a type it lists: " + tree, type.matches(TYPES));
        due(5, "a static field is a constant: " + tree, !modifiers.contains(Modifier.STATIC)
                || modifiers.contains(Modifier.FINAL) && type.matches(CONSTANTS));
        return super.visitVariable(tree, nothing);
    }

    @Override
    public Void visitMethod(MethodTree tree, Void nothing) {
        ExecutableElement method = (ExecutableElement) element();
        calls.computeIfAbsent(method, key -> new LinkedHashSet<>());
        due(11, "at most seven parameters: " + tree.getName(), tree.getParameters().size() <= MOST_PARAMETERS);
        due(11, "some sixty lines: " + tree.getName(), tree.toString().strip().split("\n").length <= MOST_LINES);
        due(1, "no method that is not public bears the name of a public one: " + tree.getName(), !isNameTaken(method));
        return super.visitMethod(tree, nothing);
    }

    private static boolean isNameTaken(ExecutableElement method) {
        boolean isTaken = false;
        for (Element other : method.getEnclosingElement().getEnclosedElements()) {
            isTaken |= other.getModifiers().contains(Modifier.PUBLIC)
                    && other.getSimpleName().equals(method.getSimpleName());
        }
        return isTaken && !method.getModifiers().contains(Modifier.PUBLIC);
    }

    @Override
    public Void visitMethodInvocation(MethodInvocationTree tree, Void nothing) {
        use((ExecutableElement) element(tree));
        return super.visitMethodInvocation(tree, nothing);
    }

    @Override
    public Void visitNewClass(NewClassTree tree, Void nothing) {
        ExecutableElement made = (ExecutableElement) element(tree);
        String name = made.getEnclosingElement().getSimpleName().toString();
        due(2, "no class without a name: " + name, tree.getClassBody() == null);
        if (isOwn(made)) {
            use(made);
        } else {
            boolean isThrown = getCurrentPath().getParentPath().getLeaf().getKind() == Tree.Kind.THROW;
            due(12, "an object that may be made: " + tree, isThrown ? EXCEPTIONS.contains(name)
                    : name.equals("ArrayList") && tree.getArguments().isEmpty());
        }
        return super.visitNewClass(tree, nothing);
    }

    private void use(ExecutableElement called) {
        if (isOwn(called)) {
            calls.computeIfAbsent(caller(), key -> new LinkedHashSet<>()).add(called);
        } else {
            String name = called.getEnclosingElement().getSimpleName() + "." + called.getSimpleName();
            due(4, "of the library what it lists: " + name, LIBRARY.contains(name));
        }
    }

    private ExecutableElement caller() {
        TreePath path = getCurrentPath();
        while (path.getLeaf().getKind() != Tree.Kind.METHOD) {
            path = path.getParentPath();
        }
        return (ExecutableElement) trees.getElement(path);
    }

    @Override
    public Void visitThrow(ThrowTree tree, Void nothing) {
        boolean isNew = tree.getExpression() instanceof NewClassTree;
        due(6, "a new exception: " + tree, isNew);
        if (isNew) {
            List<? extends ExpressionTree> texts = ((NewClassTree) tree.getExpression()).getArguments();
            due(6, "a written text: " + tree, texts.isEmpty() || texts.get(0) instanceof LiteralTree);
        }
        due(6, "not in a constructor: " + tree, caller().getKind() != ElementKind.CONSTRUCTOR);
        return super.visitThrow(tree, nothing);
    }

    @Override
    public Void visitForLoop(ForLoopTree tree, Void nothing) {
        due(9, "a loop with an end: " + tree.getCondition(), tree.getCondition() != null);
        return super.visitForLoop(tree, nothing);
    }

    @Override
    public Void visitBinary(BinaryTree tree, Void nothing) {
        due(10, "no texts joined by +: " + tree, tree.getKind() != Tree.Kind.PLUS
                || !typeOf(tree).equals("java.lang.String"));
        return super.visitBinary(tree, nothing);
    }

    @Override
    public Void visitCompoundAssignment(CompoundAssignmentTree tree, Void nothing) {
        due(10, "no texts joined by +=: " + tree, !typeOf(tree.getVariable()).equals("java.lang.String"));
        return super.visitCompoundAssignment(tree, nothing);
    }

    @Override
    public Void visitLambdaExpression(LambdaExpressionTree tree, Void nothing) {
        refuse(2, tree);
        return null;
    }

    @Override
    public Void visitMemberReference(MemberReferenceTree tree, Void nothing) {
        refuse(2, tree);
        return null;
    }

    @Override
    public Void visitTry(TryTree tree, Void nothing) {
        refuse(6, tree);
        return null;
    }

    @Override
    public Void visitSynchronized(SynchronizedTree tree, Void nothing) {
        refuse(6, tree);
        return null;
    }

    @Override
    public Void visitAssert(AssertTree tree, Void nothing) {
        refuse(6, tree);
        return null;
    }

    @Override
    public Void visitWhileLoop(WhileLoopTree tree, Void nothing) {
        refuse(9, tree);
        return null;
    }

    @Override
    public Void visitDoWhileLoop(DoWhileLoopTree tree, Void nothing) {
        refuse(9, tree);
        return null;
    }

    private void measureDepth() {
        for (ExecutableElement method : calls.keySet()) {
            int depth = depth(method, new TreeSet<>());
            due(11, "calls go at most eight deep, and none calls itself: " + method, depth <= MOST_DEPTH);
        }
    }

    /** How many calls stand open at once at most, this one counted; far too many for one that calls itself. */
    private int depth(ExecutableElement method, Set<String> open) {
        String name = method.getEnclosingElement() + "." + method;
        if (!open.add(name)) {
            return 1000;
        }
        Integer known = depths.get(method);
        int deepest = 0;
        if (known == null) {
            for (ExecutableElement called : calls.getOrDefault(method, Set.of())) {
                deepest = Math.max(deepest, depth(called, open));
            }
            for (ExecutableElement other : calls.keySet()) {
                if (elements.overrides(other, method, (TypeElement) other.getEnclosingElement())) {
                    deepest = Math.max(deepest, depth(other, open) - 1);
                }
            }
        }
        open.remove(name);
        depths.putIfAbsent(method, deepest + 1);
        return depths.get(method);
    }
}
