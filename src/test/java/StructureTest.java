import com.sun.source.tree.BinaryTree;
import com.sun.source.tree.ClassTree;
import com.sun.source.tree.CompilationUnitTree;
import com.sun.source.tree.ExpressionTree;
import com.sun.source.tree.IdentifierTree;
import com.sun.source.tree.MemberSelectTree;
import com.sun.source.tree.MethodInvocationTree;
import com.sun.source.tree.MethodTree;
import com.sun.source.tree.NewArrayTree;
import com.sun.source.tree.NewClassTree;
import com.sun.source.tree.ThrowTree;
import com.sun.source.tree.Tree;
import com.sun.source.tree.TypeCastTree;
import com.sun.source.tree.VariableTree;
import com.sun.source.util.JavacTask;
import com.sun.source.util.TreePath;
import com.sun.source.util.TreePathScanner;
import com.sun.source.util.Trees;
import java.nio.file.Path;
import java.util.ArrayList;
import java.util.HashSet;
import java.util.LinkedHashMap;
import java.util.LinkedHashSet;
import java.util.List;
import java.util.Map;
import java.util.Set;
import javax.lang.model.element.Element;
import javax.lang.model.element.ElementKind;
import javax.lang.model.element.Modifier;
import javax.lang.model.element.VariableElement;
import javax.tools.JavaCompiler;
import javax.tools.StandardJavaFileManager;
import javax.tools.ToolProvider;

/**
 * The rules of LANGUAGE.md that need the program as the compiler reads it: what calls what, and what
 * an expression is made of. It is run from the root of the project.
 */
public final class StructureTest {

    private static final Path PROGRAM = Path.of("src/main/java/Gimlet.java");
    private static final int DEEPEST = 8;

    /** Of the static methods that rule 4 allows, those that the program may be expected to need. */
    private static final Set<String> LIBRARY = Set.of(
            "java.lang.Integer.bitCount", "java.lang.Integer.compare", "java.lang.Integer.min",
            "java.lang.Integer.max", "java.lang.Long.compare", "java.lang.Math.min", "java.lang.Math.max",
            "java.lang.Math.abs", "java.lang.Math.floorDiv", "java.lang.Math.floorMod",
            "java.lang.System.arraycopy", "java.util.Arrays.copyOf", "java.util.Arrays.copyOfRange",
            "java.util.Arrays.fill");

    private final Trees trees;
    /** Each method of the program with those of its own that it calls. */
    private final Map<Element, Set<Element>> calls = new LinkedHashMap<>();

    private StructureTest(Trees trees) {
        this.trees = trees;
    }

    public static void main(String[] args) throws Exception {
        JavaCompiler compiler = ToolProvider.getSystemJavaCompiler();
        try (StandardJavaFileManager files = compiler.getStandardFileManager(null, null, null)) {
            JavacTask task = (JavacTask) compiler.getTask(null, files, null, List.of("-proc:none"), null,
                    files.getJavaFileObjects(PROGRAM));
            StructureTest test = new StructureTest(Trees.instance(task));
            Iterable<? extends CompilationUnitTree> units = task.parse();
            task.analyze();
            for (CompilationUnitTree unit : units) {
                test.new Reader().scan(unit, null);
            }
            test.depth();
            test.recursion();
        }
        Check.finish("StructureTest");
    }

    /** Rule 11: calls that are no recursion go at most eight deep. */
    private void depth() {
        Check.holds("the program's methods were found", calls.size() > 100);
        int deepest = 0;
        for (Element method : calls.keySet()) {
            List<Element> chain = longest(method, new HashSet<>(Set.of(method)));
            deepest = Math.max(deepest, chain.size());
            Check.holds("at most " + DEEPEST + " deep: " + chain, chain.size() <= DEEPEST);
        }
        Check.holds("calls were followed", deepest > 3);
    }

    /** The longest chain of calls from the method on, itself included, without any method twice. */
    private List<Element> longest(Element method, Set<Element> open) {
        List<Element> best = new ArrayList<>();
        for (Element called : calls.getOrDefault(method, Set.of())) {
            if (open.add(called)) {
                List<Element> chain = longest(called, open);
                best = chain.size() > best.size() ? chain : best;
                open.remove(called);
            }
        }
        best.add(0, method);
        return best;
    }

    /** Rule 8: what calls itself is private. */
    private void recursion() {
        for (Element method : calls.keySet()) {
            if (reaches(method, method, new HashSet<>())) {
                Check.holds(method + ", which calls itself, is private",
                        method.getModifiers().contains(Modifier.PRIVATE));
            }
        }
    }

    private boolean reaches(Element from, Element method, Set<Element> seen) {
        for (Element called : calls.getOrDefault(from, Set.of())) {
            if (called.equals(method) || seen.add(called) && reaches(called, method, seen)) {
                return true;
            }
        }
        return false;
    }

    private static boolean isOwn(Element element) {
        Element outermost = element;
        while (outermost.getEnclosingElement().getKind() != ElementKind.PACKAGE) {
            outermost = outermost.getEnclosingElement();
        }
        return outermost.getSimpleName().contentEquals("Gimlet");
    }

    /** Goes through the whole text of the program. */
    private final class Reader extends TreePathScanner<Void, Void> {

        private Element method = null;

        @Override
        public Void visitMethod(MethodTree node, Void none) {
            Element outer = method;
            method = trees.getElement(getCurrentPath());
            calls.putIfAbsent(method, new LinkedHashSet<>());
            super.visitMethod(node, none);
            method = outer;
            return null;
        }

        /** Rule 4: no library but what it lists. */
        @Override
        public Void visitMethodInvocation(MethodInvocationTree node, Void none) {
            Element called = elementOf(node.getMethodSelect());
            if (isOwn(called)) {
                calls.get(method).add(called);
            } else if (called.getKind() == ElementKind.METHOD) {
                String name = called.getEnclosingElement() + "." + called.getSimpleName();
                Check.holds("the rules allow " + name, LIBRARY.contains(name));
            }
            return super.visitMethodInvocation(node, none);
        }

        /** Which exceptions may be thrown is LanguageTest's; of the library nothing else is made. */
        @Override
        public Void visitNewClass(NewClassTree node, Void none) {
            Tree around = getCurrentPath().getParentPath().getLeaf();
            boolean own = isOwn(trees.getElement(getCurrentPath()));
            Check.holds("of its own or thrown: " + node, own || around instanceof ThrowTree);
            return super.visitNewClass(node, none);
        }

        /** Rule 6: a throw makes its exception, and stands in no constructor. */
        @Override
        public Void visitThrow(ThrowTree node, Void none) {
            Check.holds("a new exception: " + node, node.getExpression() instanceof NewClassTree);
            Check.holds("in a method: " + node, method.getKind() == ElementKind.METHOD);
            return super.visitThrow(node, none);
        }

        /** Rule 5: static fields are final constants. */
        @Override
        public Void visitVariable(VariableTree node, Void none) {
            boolean field = getCurrentPath().getParentPath().getLeaf() instanceof ClassTree;
            if (field && node.getModifiers().getFlags().contains(Modifier.STATIC)) {
                Check.holds("final: " + node, node.getModifiers().getFlags().contains(Modifier.FINAL));
                Check.holds("a constant: " + node, isConstant(node.getInitializer()));
            }
            return super.visitVariable(node, none);
        }

        /** Rule 7, as the program keeps it: what divides is a constant. */
        @Override
        public Void visitBinary(BinaryTree node, Void none) {
            if (node.getKind() == Tree.Kind.DIVIDE || node.getKind() == Tree.Kind.REMAINDER) {
                Check.holds("divided by a constant: " + node, isConstant(node.getRightOperand()));
            }
            return super.visitBinary(node, none);
        }

        /** Rules 7 and 12, as the program keeps them: rows are made with the object, of constant lengths. */
        @Override
        public Void visitNewArray(NewArrayTree node, Void none) {
            Check.holds("made with the object: " + node, method == null);
            for (ExpressionTree length : node.getDimensions()) {
                Check.holds("of a constant length: " + node, isConstant(length));
            }
            return super.visitNewArray(node, none);
        }

        /** Rule 7, as the program keeps it: only numbers are cast. */
        @Override
        public Void visitTypeCast(TypeCastTree node, Void none) {
            TreePath type = new TreePath(getCurrentPath(), node.getType());
            Check.holds("a cast of numbers: " + node, trees.getTypeMirror(type).getKind().isPrimitive());
            return super.visitTypeCast(node, none);
        }

        private Element elementOf(Tree tree) {
            return trees.getElement(new TreePath(getCurrentPath(), tree));
        }

        /** Whether the expression is made of literals and of constants alone. */
        private boolean isConstant(ExpressionTree expression) {
            if (expression == null) {
                return false;
            }
            boolean[] constant = {true};
            new TreePathScanner<Void, Void>() {
                @Override
                public Void visitIdentifier(IdentifierTree node, Void none) {
                    Element named = trees.getElement(getCurrentPath());
                    constant[0] &= named instanceof VariableElement
                            && ((VariableElement) named).getConstantValue() != null;
                    return super.visitIdentifier(node, none);
                }

                @Override
                public Void visitMemberSelect(MemberSelectTree node, Void none) {
                    constant[0] = false;
                    return null;
                }

                @Override
                public Void visitMethodInvocation(MethodInvocationTree node, Void none) {
                    constant[0] = false;
                    return null;
                }
            }.scan(new TreePath(getCurrentPath(), expression), null);
            return constant[0];
        }
    }
}
