import com.sun.source.tree.AssignmentTree;
import com.sun.source.tree.BinaryTree;
import com.sun.source.tree.ClassTree;
import com.sun.source.tree.CompilationUnitTree;
import com.sun.source.tree.CompoundAssignmentTree;
import com.sun.source.tree.ExpressionTree;
import com.sun.source.tree.ForLoopTree;
import com.sun.source.tree.MethodInvocationTree;
import com.sun.source.tree.MethodTree;
import com.sun.source.tree.NewClassTree;
import com.sun.source.tree.ThrowTree;
import com.sun.source.tree.Tree;
import com.sun.source.tree.VariableTree;
import com.sun.source.tree.WhileLoopTree;
import com.sun.source.util.JavacTask;
import com.sun.source.util.TreePath;
import com.sun.source.util.TreePathScanner;
import com.sun.source.util.Trees;
import java.io.IOException;
import java.nio.file.Path;
import java.util.HashMap;
import java.util.HashSet;
import java.util.List;
import java.util.Map;
import java.util.Set;
import javax.lang.model.element.Element;
import javax.lang.model.element.Modifier;
import javax.tools.JavaCompiler;
import javax.tools.StandardJavaFileManager;
import javax.tools.ToolProvider;

/** Rules of LANGUAGE.md that the program's tree of syntax can tell, as the compiler reads it. */
public final class TreeTests extends TreePathScanner<Void, Void> {
    private static final Path PROGRAM = Path.of("src/main/java/CoinbookSorter.java");
    private static final int DEEPEST = 8;

    /** What the program does without, so that the rules 2, 6, 8 and 10 are not touched. */
    private static final Set<Tree.Kind> ABSENT = Set.of(Tree.Kind.LAMBDA_EXPRESSION,
            Tree.Kind.MEMBER_REFERENCE, Tree.Kind.TRY, Tree.Kind.SYNCHRONIZED, Tree.Kind.ASSERT,
            Tree.Kind.INSTANCE_OF, Tree.Kind.TYPE_CAST, Tree.Kind.SWITCH,
            Tree.Kind.SWITCH_EXPRESSION, Tree.Kind.ENHANCED_FOR_LOOP, Tree.Kind.DIVIDE,
            Tree.Kind.REMAINDER, Tree.Kind.DIVIDE_ASSIGNMENT, Tree.Kind.REMAINDER_ASSIGNMENT,
            Tree.Kind.ANNOTATION, Tree.Kind.DO_WHILE_LOOP);

    private static final Set<String> LIBRARY = Set.of("String.length()", "String.charAt(int)",
            "String.equals(java.lang.Object)", "String.substring(int,int)",
            "StringBuilder.append(char)", "StringBuilder.length()", "StringBuilder.setLength(int)",
            "StringBuilder.toString()", "ArrayList.add(E)", "ArrayList.get(int)",
            "ArrayList.remove(int)", "ArrayList.size()", "Math.abs(int)",
            "Arrays.fill(int[],int)");

    private static final Set<String> LIBRARY_MADE = Set.of("java.lang.StringBuilder",
            "java.util.ArrayList");

    private static final Set<String> EXCEPTIONS = Set.of("java.lang.IllegalStateException",
            "java.lang.IllegalArgumentException", "java.lang.IndexOutOfBoundsException");

    private static final String TYPES = "int|boolean|char|void|int\\[\\]|java.lang.String"
            + "|java.lang.StringBuilder|CoinbookSorter\\.\\w+"
            + "|java.util.ArrayList<CoinbookSorter\\.\\w+>";

    private final Trees trees;
    private final CompilationUnitTree unit;
    private final Map<Element, Set<Element>> calls = new HashMap<>();
    private Element caller;
    private int classes;

    private TreeTests(Trees trees, CompilationUnitTree unit) {
        this.trees = trees;
        this.unit = unit;
    }

    public static void main(String[] args) throws IOException {
        JavaCompiler compiler = ToolProvider.getSystemJavaCompiler();
        try (StandardJavaFileManager files = compiler.getStandardFileManager(null, null, null)) {
            JavacTask task = (JavacTask) compiler.getTask(null, files, null,
                    List.of("-proc:none"), null, files.getJavaFileObjects(PROGRAM));
            CompilationUnitTree unit = task.parse().iterator().next();
            task.analyze();
            TreeTests test = new TreeTests(Trees.instance(task), unit);
            test.scan(unit, null);
            test.checkCalls();
        }
        Check.close("TreeTests");
    }

    @Override
    public Void scan(Tree tree, Void none) {
        if (tree != null && ABSENT.contains(tree.getKind())) {
            Check.that(where(tree) + tree.getKind() + " stands in the program", false);
        }
        return super.scan(tree, none);
    }

    @Override
    public Void visitClass(ClassTree tree, Void none) {
        classes++;
        Set<Modifier> modifiers = tree.getModifiers().getFlags();
        boolean outer = getCurrentPath().getParentPath().getLeaf() == unit;
        Check.that(where(tree) + "rules 1 and 2: a class of the file, or static inside it",
                outer || modifiers.contains(Modifier.STATIC)
                        && !modifiers.contains(Modifier.PUBLIC)
                        && !modifiers.contains(Modifier.PROTECTED));
        long fields = tree.getMembers().stream().filter(member -> member instanceof VariableTree
                field && !field.getModifiers().getFlags().contains(Modifier.STATIC)).count();
        Check.that(where(tree) + "rule 11: fields", fields <= 20);
        return super.visitClass(tree, none);
    }

    @Override
    public Void visitMethod(MethodTree tree, Void none) {
        caller = trees.getElement(getCurrentPath());
        calls.putIfAbsent(caller, new HashSet<>());
        Check.that(where(tree) + "rule 11: parameters", tree.getParameters().size() <= 7);
        Check.that(where(tree) + "rule 11: lines", line(tree, true) - line(tree, false) <= 60);
        return super.visitMethod(tree, none);
    }

    @Override
    public Void visitVariable(VariableTree tree, Void none) {
        checkType(tree, "rule 3: type of " + tree.getName());
        Set<Modifier> modifiers = tree.getModifiers().getFlags();
        if (modifiers.contains(Modifier.STATIC)) {
            Check.that(where(tree) + "rule 5: a constant", modifiers.contains(Modifier.FINAL)
                    && tree.getType().toString().equals("int"));
        }
        return super.visitVariable(tree, none);
    }

    @Override
    public Void visitMethodInvocation(MethodInvocationTree tree, Void none) {
        Element called = trees.getElement(getCurrentPath());
        String owner = called.getEnclosingElement().toString();
        // A StringBuilder has some of its methods from a hidden class above it.
        String name = owner.substring(owner.lastIndexOf('.') + 1).replace("Abstract", "") + "."
                + called;
        if (owner.startsWith("CoinbookSorter")) {
            calls.get(caller).add(called);
        } else if (!called.toString().equals("Object()")) {
            Check.that(where(tree) + "rule 4: " + name, LIBRARY.contains(name));
        }
        checkType(tree, "rule 3: answer of " + name);
        return super.visitMethodInvocation(tree, none);
    }

    @Override
    public Void visitNewClass(NewClassTree tree, Void none) {
        String made = trees.getElement(getCurrentPath()).getEnclosingElement().toString();
        boolean thrown = getCurrentPath().getParentPath().getLeaf() instanceof ThrowTree;
        Check.that(where(tree) + "rules 4 and 6: new " + made, thrown ? EXCEPTIONS.contains(made)
                : LIBRARY_MADE.contains(made) || made.startsWith("CoinbookSorter."));
        Check.that(where(tree) + "rule 2: a body", tree.getClassBody() == null);
        if (made.startsWith("CoinbookSorter.")) {
            calls.get(caller).add(trees.getElement(getCurrentPath()));
        }
        return super.visitNewClass(tree, none);
    }

    @Override
    public Void visitThrow(ThrowTree tree, Void none) {
        Check.that(where(tree) + "rule 6: throw new, with a written text",
                tree.getExpression() instanceof NewClassTree made && made.getArguments().size() == 1
                        && made.getArguments().get(0).getKind() == Tree.Kind.STRING_LITERAL);
        Check.that(where(tree) + "rule 6: a throw in a constructor",
                !caller.getSimpleName().contentEquals("<init>"));
        return super.visitThrow(tree, none);
    }

    @Override
    public Void visitBinary(BinaryTree tree, Void none) {
        Check.that(where(tree) + "rules 6 and 10: texts are neither joined nor compared by signs",
                !isText(tree.getLeftOperand()) && !isText(tree.getRightOperand()));
        return super.visitBinary(tree, none);
    }

    @Override
    public Void visitCompoundAssignment(CompoundAssignmentTree tree, Void none) {
        Check.that(where(tree) + "rule 10: texts joined", !isText(tree.getVariable()));
        return super.visitCompoundAssignment(tree, none);
    }

    @Override
    public Void visitAssignment(AssignmentTree tree, Void none) {
        checkType(tree, "rule 3: what is kept");
        return super.visitAssignment(tree, none);
    }

    @Override
    public Void visitForLoop(ForLoopTree tree, Void none) {
        Check.that(where(tree) + "rule 9: a counter against a bound",
                tree.getCondition() instanceof BinaryTree && tree.getUpdate().size() == 1);
        return super.visitForLoop(tree, none);
    }

    @Override
    public Void visitWhileLoop(WhileLoopTree tree, Void none) {
        Check.that(where(tree) + "rule 9: an end to be seen",
                !tree.getCondition().toString().equals("(true)"));
        return super.visitWhileLoop(tree, none);
    }

    private boolean isText(ExpressionTree tree) {
        return typeOf(tree).equals("java.lang.String");
    }

    private void checkType(Tree tree, String what) {
        String type = typeOf(tree);
        Check.that(where(tree) + what + ": " + type, type.matches(TYPES));
    }

    private String typeOf(Tree tree) {
        return trees.getTypeMirror(TreePath.getPath(unit, tree)).toString();
    }

    private String where(Tree tree) {
        return "line " + line(tree, false) + ": ";
    }

    private long line(Tree tree, boolean end) {
        long place = end ? trees.getSourcePositions().getEndPosition(unit, tree)
                : trees.getSourcePositions().getStartPosition(unit, tree);
        return unit.getLineMap().getLineNumber(place);
    }

    private void checkCalls() {
        Check.that("rule 11: classes", classes <= 12);
        Check.that("the methods were found", calls.size() > 50);
        for (Element method : calls.keySet()) {
            int depth = depth(method, DEEPEST + 1);
            // The call of the library at the end of the chain is one more.
            Check.that("rules 8 and 11: " + depth + " calls deep, or in a ring: " + method,
                    depth + 1 <= DEEPEST);
        }
    }

    private int depth(Element method, int left) {
        int deepest = 0;
        for (Element called : calls.getOrDefault(method, Set.of())) {
            deepest = Math.max(deepest, left == 0 ? DEEPEST : depth(called, left - 1));
        }
        return deepest + 1;
    }
}
