import com.sun.source.tree.AssertTree;
import com.sun.source.tree.BinaryTree;
import com.sun.source.tree.BlockTree;
import com.sun.source.tree.ClassTree;
import com.sun.source.tree.CompilationUnitTree;
import com.sun.source.tree.CompoundAssignmentTree;
import com.sun.source.tree.ExpressionTree;
import com.sun.source.tree.ImportTree;
import com.sun.source.tree.LambdaExpressionTree;
import com.sun.source.tree.LiteralTree;
import com.sun.source.tree.MemberReferenceTree;
import com.sun.source.tree.MethodInvocationTree;
import com.sun.source.tree.MethodTree;
import com.sun.source.tree.NewArrayTree;
import com.sun.source.tree.NewClassTree;
import com.sun.source.tree.SynchronizedTree;
import com.sun.source.tree.ThrowTree;
import com.sun.source.tree.Tree;
import com.sun.source.tree.TryTree;
import com.sun.source.tree.VariableTree;
import com.sun.source.util.JavacTask;
import com.sun.source.util.TreePath;
import com.sun.source.util.TreePathScanner;
import com.sun.source.util.Trees;
import java.io.IOException;
import java.nio.file.Path;
import java.util.ArrayList;
import java.util.HashMap;
import java.util.HashSet;
import java.util.List;
import java.util.Map;
import java.util.Set;
import java.util.TreeSet;
import javax.lang.model.element.Element;
import javax.lang.model.element.ElementKind;
import javax.lang.model.element.ExecutableElement;
import javax.lang.model.element.Modifier;
import javax.lang.model.type.TypeMirror;
import javax.tools.JavaCompiler;
import javax.tools.StandardJavaFileManager;
import javax.tools.ToolProvider;

/**
 * The rules of LANGUAGE.md that can be seen in the program's source, and stricter ones where the program needs no
 * more: it takes little from the library, catches nothing, calls itself nowhere, and makes objects in constructors
 * alone. Rules 7 and 9 (indices, divisors, ends of loops) are read by eye; the tests run their edges.
 */
public final class LanguageTest {
    private static final Path PROGRAM = Path.of("src/main/java/FixtureTables.java");
    private static final String FACE = "FixtureTables";
    private static final int MOST_CLASSES = 12;
    private static final int MOST_FIELDS = 20;
    private static final int MOST_LINES = 60;
    private static final int MOST_PARAMETERS = 7;
    private static final int DEEPEST_CALL = 8;
    private static final Set<String> LIBRARY = Set.of("java.lang.System.arraycopy", "java.lang.Math.min",
            "java.lang.Math.abs", "java.lang.Object.<init>");
    private static final Set<String> EXCEPTIONS = Set.of("IllegalStateException", "IllegalArgumentException",
            "IndexOutOfBoundsException", "UnsupportedOperationException");

    private LanguageTest() {
    }

    public static void main(String[] args) throws IOException {
        Program program = new Program();
        program.readSource();
        Due.same("what the rules do not allow", "[]", program.broken.toString());
        Due.is("classes, at most " + MOST_CLASSES, 1, () -> program.classes <= MOST_CLASSES ? 1 : 0);
        Due.is("methods that were read", 1, () -> program.calls.size() > 100 ? 1 : 0);
        int depth = program.deepestCall();
        Due.is("calls are " + depth + " deep, at most " + DEEPEST_CALL, 1, () -> depth <= DEEPEST_CALL ? 1 : 0);
        Due.end();
    }

    /** What is seen of the program: what breaks a rule, and which method calls which. */
    private static final class Program extends TreePathScanner<Void, Void> {
        final TreeSet<String> broken = new TreeSet<>();
        final Map<ExecutableElement, Set<ExecutableElement>> calls = new HashMap<>();
        int classes = 0;
        private final Set<String> publicNames = new HashSet<>();
        private final List<ExecutableElement> privateMethods = new ArrayList<>();
        private Trees trees;
        private CompilationUnitTree unit;

        void readSource() throws IOException {
            JavaCompiler compiler = ToolProvider.getSystemJavaCompiler();
            try (StandardJavaFileManager files = compiler.getStandardFileManager(null, null, null)) {
                JavacTask task = (JavacTask) compiler.getTask(null, files, null,
                        List.of("-proc:none"), null, files.getJavaFileObjects(PROGRAM));
                trees = Trees.instance(task);
                unit = task.parse().iterator().next();
                task.analyze();
                scan(unit, null);
            }
            for (ExecutableElement method : privateMethods) {
                check(1, "private method " + method, !publicNames.contains(method.getSimpleName().toString()));
            }
        }

        /** How many calls stand open at once; far too many if a method comes back to itself. */
        int deepestCall() {
            int deepest = 0;
            for (ExecutableElement method : calls.keySet()) {
                deepest = Math.max(deepest, depthOf(method, 1));
            }
            return deepest;
        }

        private int depthOf(ExecutableElement method, int depth) {
            int deepest = depth;
            for (ExecutableElement called : calls.getOrDefault(method, Set.of())) {
                deepest = depth > DEEPEST_CALL ? deepest : Math.max(deepest, depthOf(called, depth + 1));
            }
            return deepest;
        }

        private void check(int rule, String what, boolean holds) {
            if (!holds) {
                broken.add("rule " + rule + ": " + what + " in line " + line(getCurrentPath()));
            }
        }

        private long line(TreePath path) {
            return path == null ? 0 : unit.getLineMap().getLineNumber(start(path.getLeaf()));
        }

        private long start(Tree tree) {
            return trees.getSourcePositions().getStartPosition(unit, tree);
        }

        private Element element() {
            return trees.getElement(getCurrentPath());
        }

        private TypeMirror typeOf(Tree tree) {
            return trees.getTypeMirror(new TreePath(getCurrentPath(), tree));
        }

        private boolean isText(Tree tree) {
            return String.valueOf(typeOf(tree)).equals("java.lang.String");
        }

        /** The method or constructor round the place that is looked at. */
        private ExecutableElement method() {
            for (TreePath path = getCurrentPath(); path != null; path = path.getParentPath()) {
                if (path.getLeaf() instanceof MethodTree) {
                    return (ExecutableElement) trees.getElement(path);
                }
            }
            return null;
        }

        private boolean isInConstructor() {
            return method() != null && method().getKind() == ElementKind.CONSTRUCTOR;
        }

        @Override
        public Void visitCompilationUnit(CompilationUnitTree tree, Void none) {
            check(1, "a package line", tree.getPackage() == null);
            check(1, "one class at the top", tree.getTypeDecls().size() == 1);
            return super.visitCompilationUnit(tree, none);
        }

        @Override
        public Void visitImport(ImportTree tree, Void none) {
            check(4, "an import", false);
            return super.visitImport(tree, none);
        }

        @Override
        public Void visitClass(ClassTree tree, Void none) {
            classes++;
            Set<Modifier> modifiers = tree.getModifiers().getFlags();
            boolean face = tree.getSimpleName().contentEquals(FACE);
            check(2, "class " + tree.getSimpleName(), face ? modifiers.equals(Set.of(Modifier.PUBLIC, Modifier.FINAL))
                    : modifiers.equals(Set.of(Modifier.PRIVATE, Modifier.STATIC, Modifier.FINAL)));
            check(2, "a class above " + tree.getSimpleName(),
                    tree.getExtendsClause() == null && tree.getImplementsClause().isEmpty());
            long fields = tree.getMembers().stream().filter(member -> member instanceof VariableTree field
                    && !field.getModifiers().getFlags().contains(Modifier.STATIC)).count();
            check(11, fields + " fields of " + tree.getSimpleName(), fields <= MOST_FIELDS);
            check(5, "an initialiser of " + tree.getSimpleName(),
                    tree.getMembers().stream().noneMatch(member -> member instanceof BlockTree));
            return super.visitClass(tree, none);
        }

        @Override
        public Void visitVariable(VariableTree tree, Void none) {
            Element variable = element();
            check(3, variable + " of type " + variable.asType(), isAllowed(variable.asType()));
            if (variable.getModifiers().contains(Modifier.STATIC)) {
                check(5, "static field " + variable, variable.getModifiers().contains(Modifier.FINAL)
                        && variable.asType().getKind().isPrimitive() && tree.getInitializer() != null);
            }
            if (variable.getKind() == ElementKind.FIELD && variable.getEnclosingElement().toString().equals(FACE)) {
                check(1, "field " + variable, variable.getModifiers().contains(Modifier.PRIVATE));
            }
            return super.visitVariable(tree, none);
        }

        /** The program's own classes, whole numbers and truths, and rows of these: it needs no more. */
        private boolean isAllowed(TypeMirror type) {
            String name = type.toString().replace("[]", "");
            boolean known = Set.of("int", "long", "char", "boolean").contains(name) || name.startsWith(FACE);
            return known && !type.toString().contains("[][]");
        }

        @Override
        public Void visitMethod(MethodTree tree, Void none) {
            ExecutableElement method = (ExecutableElement) element();
            calls.putIfAbsent(method, new HashSet<>());
            check(11, method + " takes too much", tree.getParameters().size() <= MOST_PARAMETERS);
            long end = trees.getSourcePositions().getEndPosition(unit, tree);
            long lines = end < 0 ? 0 : unit.getLineMap().getLineNumber(end) - line(getCurrentPath()) + 1;
            check(11, method + " is long", lines <= MOST_LINES);
            if (method.getModifiers().contains(Modifier.PUBLIC)) {
                publicNames.add(method.getSimpleName().toString());
                check(1, "public " + method, method.getEnclosingElement().toString().equals(FACE));
            }
            if (method.getModifiers().contains(Modifier.PRIVATE)) {
                privateMethods.add(method);
            }
            check(6, method + " of every object", !Set.of("equals", "hashCode", "toString").contains(
                    method.getSimpleName().toString()));
            return super.visitMethod(tree, none);
        }

        @Override
        public Void visitMethodInvocation(MethodInvocationTree tree, Void none) {
            ExecutableElement called = (ExecutableElement) element();
            String owner = called.getEnclosingElement().toString();
            if (owner.startsWith(FACE)) {
                calls.computeIfAbsent(method(), key -> new HashSet<>()).add(called);
            } else {
                check(4, owner + "." + called.getSimpleName(),
                        LIBRARY.contains(owner + "." + called.getSimpleName()));
            }
            return super.visitMethodInvocation(tree, none);
        }

        @Override
        public Void visitNewClass(NewClassTree tree, Void none) {
            ExecutableElement made = (ExecutableElement) element();
            if (made.getEnclosingElement().toString().startsWith(FACE)) {
                calls.computeIfAbsent(method(), key -> new HashSet<>()).add(made);
                check(12, "an object made", isInConstructor());
            } else {
                check(4, "new " + tree.getIdentifier(), EXCEPTIONS.contains(tree.getIdentifier().toString())
                        && getCurrentPath().getParentPath().getLeaf() instanceof ThrowTree);
            }
            return super.visitNewClass(tree, none);
        }

        @Override
        public Void visitNewArray(NewArrayTree tree, Void none) {
            check(12, "a row made", isInConstructor());
            return super.visitNewArray(tree, none);
        }

        @Override
        public Void visitThrow(ThrowTree tree, Void none) {
            check(6, "throw in a constructor", !isInConstructor());
            check(6, "throw behind the face", method().getModifiers().contains(Modifier.PUBLIC));
            boolean plain = tree.getExpression() instanceof NewClassTree made && isWrittenText(made.getArguments());
            check(6, "throw " + tree.getExpression(), plain);
            String thrown = String.valueOf(typeOf(tree.getExpression()));
            check(6, thrown + " that is not named", method().getThrownTypes().stream().anyMatch(
                    named -> named.toString().equals(thrown)));
            return super.visitThrow(tree, none);
        }

        private boolean isWrittenText(List<? extends ExpressionTree> arguments) {
            return arguments.isEmpty() || arguments.size() == 1 && arguments.get(0) instanceof LiteralTree;
        }

        @Override
        public Void visitBinary(BinaryTree tree, Void none) {
            boolean texts = isText(tree.getLeftOperand()) || isText(tree.getRightOperand());
            check(10, "texts in " + tree, !texts);
            if (tree.getKind() == Tree.Kind.DIVIDE || tree.getKind() == Tree.Kind.REMAINDER) {
                checkDivisor(tree.getRightOperand());
            }
            return super.visitBinary(tree, none);
        }

        @Override
        public Void visitCompoundAssignment(CompoundAssignmentTree tree, Void none) {
            check(10, "texts in " + tree, !isText(tree.getVariable()));
            if (tree.getKind() == Tree.Kind.DIVIDE_ASSIGNMENT || tree.getKind() == Tree.Kind.REMAINDER_ASSIGNMENT) {
                checkDivisor(tree.getExpression());
            }
            return super.visitCompoundAssignment(tree, none);
        }

        /** A written number, or writeWhole's unit, which begins with 1 and is looked at before it gets less. */
        private void checkDivisor(ExpressionTree divisor) {
            boolean written = divisor instanceof LiteralTree literal && !String.valueOf(literal.getValue()).equals("0");
            check(7, "divisor " + divisor, written || divisor.toString().equals("unit"));
        }

        @Override
        public Void visitLambdaExpression(LambdaExpressionTree tree, Void none) {
            check(2, "a lambda", false);
            return super.visitLambdaExpression(tree, none);
        }

        @Override
        public Void visitMemberReference(MemberReferenceTree tree, Void none) {
            check(2, "a method reference", false);
            return super.visitMemberReference(tree, none);
        }

        @Override
        public Void visitTry(TryTree tree, Void none) {
            check(6, "try", false);
            return super.visitTry(tree, none);
        }

        @Override
        public Void visitSynchronized(SynchronizedTree tree, Void none) {
            check(6, "synchronized", false);
            return super.visitSynchronized(tree, none);
        }

        @Override
        public Void visitAssert(AssertTree tree, Void none) {
            check(6, "assert", false);
            return super.visitAssert(tree, none);
        }
    }
}
