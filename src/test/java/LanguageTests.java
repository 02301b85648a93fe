import com.sun.source.tree.BinaryTree;
import com.sun.source.tree.ClassTree;
import com.sun.source.tree.CompilationUnitTree;
import com.sun.source.tree.ExpressionTree;
import com.sun.source.tree.LiteralTree;
import com.sun.source.tree.MethodInvocationTree;
import com.sun.source.tree.MethodTree;
import com.sun.source.tree.NewClassTree;
import com.sun.source.tree.ThrowTree;
import com.sun.source.tree.Tree;
import com.sun.source.tree.VariableTree;
import com.sun.source.util.JavacTask;
import com.sun.source.util.TreePath;
import com.sun.source.util.TreePathScanner;
import com.sun.source.util.Trees;
import java.io.IOException;
import java.nio.file.Path;
import java.util.ArrayDeque;
import java.util.Deque;
import java.util.EnumSet;
import java.util.HashMap;
import java.util.LinkedHashSet;
import java.util.List;
import java.util.Map;
import java.util.Set;
import javax.lang.model.element.Element;
import javax.lang.model.element.ElementKind;
import javax.lang.model.element.ExecutableElement;
import javax.lang.model.element.Modifier;
import javax.lang.model.element.TypeElement;
import javax.lang.model.element.VariableElement;
import javax.tools.JavaCompiler;
import javax.tools.StandardJavaFileManager;
import javax.tools.ToolProvider;

/** The rules of ../shared/LANGUAGE.md that can be read off the class's source, read by the compiler itself. */
public final class LanguageTests {
    private static final int DEEPEST = 8;
    private static final int LONGEST = 60;
    private static final int MOST_PARAMETERS = 7;
    private static final int MOST_CLASSES = 12;
    private static final int MOST_FIELDS = 20;

    private static final EnumSet<Tree.Kind> FORBIDDEN = EnumSet.of(Tree.Kind.LAMBDA_EXPRESSION,
        Tree.Kind.MEMBER_REFERENCE, Tree.Kind.SYNCHRONIZED, Tree.Kind.ASSERT, Tree.Kind.TRY, Tree.Kind.BINDING_PATTERN);

    private static final Set<String> EXCEPTIONS = Set.of("IllegalStateException", "IllegalArgumentException");

    // Of rule 4, what the class has need of; another call of the library is looked up there, and added here.
    private static final Set<String> LIBRARY = Set.of("Arrays.fill", "Arrays.copyOf", "Integer.bitCount",
        "Integer.numberOfTrailingZeros", "Math.max", "System.arraycopy", "Object.<init>",
        "IllegalStateException.<init>", "IllegalArgumentException.<init>");

    private static final Due due = new Due("LanguageTests");

    private static Trees trees;
    private static CompilationUnitTree unit;

    // Own methods, each with what it calls, own methods and the library's.
    private static final Map<ExecutableElement, Set<ExecutableElement>> calls = new HashMap<>();
    private static final Map<ExecutableElement, Integer> depths = new HashMap<>();

    public static void main(String[] args) throws IOException {
        JavaCompiler compiler = ToolProvider.getSystemJavaCompiler();
        StandardJavaFileManager files = compiler.getStandardFileManager(null, null, null);
        JavacTask task = (JavacTask) compiler.getTask(null, files, null, List.of("-proc:none"), null,
            files.getJavaFileObjects(Path.of("src/main/java/BuddyRoof.java")));
        unit = task.parse().iterator().next();
        task.analyze();
        trees = Trees.instance(task);
        new Reader().scan(unit, null);
        due.same("no package", "" + (unit.getPackageName() == null), "true");
        depth();
        library();
        due.close();
    }

    /** Rules 8 and 11: the class has no recursion, and its calls, the library's with them, go eight deep at most. */
    private static void depth() {
        for (ExecutableElement method : calls.keySet()) {
            String way = deepestWay(method, new ArrayDeque<>());
            due.same("calls from " + named(method) + ", " + way, "" + (depths.get(method) <= DEEPEST), "true");
        }
    }

    private static String deepestWay(ExecutableElement method, Deque<ExecutableElement> open) {
        if (open.contains(method)) {
            throw new AssertionError(named(method) + " calls itself");
        }
        open.push(method);
        int deepest = 0;
        String way = "";
        for (ExecutableElement called : calls.getOrDefault(method, Set.of())) {
            String further = deepestWay(called, open);
            if (depths.get(called) > deepest) {
                deepest = depths.get(called);
                way = " > " + further;
            }
        }
        open.pop();
        depths.put(method, deepest + 1);
        return named(method) + way;
    }

    /** Rule 4. */
    private static void library() {
        Set<String> used = new LinkedHashSet<>();
        for (Set<ExecutableElement> called : calls.values()) {
            for (ExecutableElement each : called) {
                if (!calls.containsKey(each)) {
                    used.add(named(each));
                }
            }
        }
        for (String each : used) {
            due.same(each + " is of the library", "" + LIBRARY.contains(each), "true");
        }
    }

    private static String named(ExecutableElement method) {
        return method.getEnclosingElement().getSimpleName() + "." + method.getSimpleName();
    }

    private static boolean isText(Element element) {
        return element instanceof VariableElement && element.asType().toString().equals("java.lang.String");
    }

    /** Gathers the calls of each method, and looks at each form that the rules bound. */
    private static final class Reader extends TreePathScanner<Void, Void> {
        private ExecutableElement within = null;
        private int classes = 0;

        private String at(Tree tree) {
            return "line " + unit.getLineMap().getLineNumber(trees.getSourcePositions().getStartPosition(unit, tree));
        }

        private long lines(Tree tree) {
            long first = trees.getSourcePositions().getStartPosition(unit, tree);
            long last = trees.getSourcePositions().getEndPosition(unit, tree);
            return unit.getLineMap().getLineNumber(last) - unit.getLineMap().getLineNumber(first) + 1;
        }

        private boolean isConstant(VariableTree field) {
            Element element = trees.getElement(new TreePath(getCurrentPath(), field));
            return element instanceof VariableElement constant && constant.getConstantValue() != null;
        }

        private void calling(Tree tree) {
            Element called = trees.getElement(getCurrentPath());
            due.same(at(tree) + ": what is called is known", "" + (called instanceof ExecutableElement), "true");
            if (within != null && called instanceof ExecutableElement method) {
                calls.get(within).add(method);
            }
        }

        @Override
        public Void scan(Tree tree, Void none) {
            if (tree != null && FORBIDDEN.contains(tree.getKind())) {
                due.same(at(tree) + ": the form " + tree.getKind(), "is there", "is not there");
            }
            return super.scan(tree, none);
        }

        @Override
        public Void visitClass(ClassTree tree, Void none) {
            classes++;
            due.same(at(tree) + ": at most twelve classes", "" + (classes <= MOST_CLASSES), "true");
            boolean nested = trees.getElement(getCurrentPath()).getEnclosingElement() instanceof TypeElement;
            boolean isStatic = tree.getModifiers().getFlags().contains(Modifier.STATIC);
            due.same(at(tree) + ": a nested class is static", "" + isStatic, "" + nested);
            int fields = 0;
            for (Tree member : tree.getMembers()) {
                due.same(at(member) + ": an initialiser block", "" + (member.getKind() == Tree.Kind.BLOCK), "false");
                if (member instanceof VariableTree field) {
                    boolean shared = field.getModifiers().getFlags().contains(Modifier.STATIC);
                    due.same(at(member) + ": a static field is a constant", "" + isConstant(field), "" + shared);
                    fields += shared ? 0 : 1;
                }
            }
            due.same(at(tree) + ": at most twenty fields", "" + (fields <= MOST_FIELDS), "true");
            return super.visitClass(tree, none);
        }

        @Override
        public Void visitMethod(MethodTree tree, Void none) {
            within = (ExecutableElement) trees.getElement(getCurrentPath());
            calls.put(within, new LinkedHashSet<>());
            due.same(named(within) + " is short", "" + (lines(tree) <= LONGEST), "true");
            due.same(named(within) + " takes few", "" + (tree.getParameters().size() <= MOST_PARAMETERS), "true");
            super.visitMethod(tree, none);
            within = null;
            return null;
        }

        @Override
        public Void visitMethodInvocation(MethodInvocationTree tree, Void none) {
            calling(tree);
            return super.visitMethodInvocation(tree, none);
        }

        @Override
        public Void visitNewClass(NewClassTree tree, Void none) {
            calling(tree);
            return super.visitNewClass(tree, none);
        }

        /** Rule 6: a new exception with a written text, and none in a constructor. */
        @Override
        public Void visitThrow(ThrowTree tree, Void none) {
            boolean plain = tree.getExpression() instanceof NewClassTree made
                && EXCEPTIONS.contains(made.getIdentifier().toString())
                && made.getArguments().stream().allMatch(each -> each instanceof LiteralTree);
            due.same(at(tree) + ": a plain throw", "" + plain, "true");
            due.same(at(tree) + ": a throw in a constructor",
                "" + (within == null || within.getKind() == ElementKind.CONSTRUCTOR), "false");
            return super.visitThrow(tree, none);
        }

        /** Rules 6 and 10: texts are neither joined by + nor compared by ==. */
        @Override
        public Void visitBinary(BinaryTree tree, Void none) {
            boolean texts = isTextual(tree.getLeftOperand()) || isTextual(tree.getRightOperand());
            due.same(at(tree) + ": an operator between texts", "" + texts, "false");
            return super.visitBinary(tree, none);
        }

        private boolean isTextual(ExpressionTree tree) {
            return tree.getKind() == Tree.Kind.STRING_LITERAL
                || isText(trees.getElement(new TreePath(getCurrentPath(), tree)));
        }
    }
}
