import com.sun.source.tree.CompilationUnitTree;
import com.sun.source.tree.ForLoopTree;
import com.sun.source.tree.MethodInvocationTree;
import com.sun.source.tree.MethodTree;
import com.sun.source.tree.NewArrayTree;
import com.sun.source.tree.NewClassTree;
import com.sun.source.tree.Tree;
import com.sun.source.util.JavacTask;
import com.sun.source.util.TreePath;
import com.sun.source.util.TreePathScanner;
import com.sun.source.util.Trees;
import java.nio.file.Path;
import java.util.ArrayDeque;
import java.util.Deque;
import java.util.List;
import java.util.Map;
import java.util.Set;
import java.util.TreeMap;
import java.util.TreeSet;
import javax.lang.model.element.Element;
import javax.lang.model.element.ExecutableElement;
import javax.tools.JavaCompiler;
import javax.tools.StandardJavaFileManager;
import javax.tools.ToolProvider;

/** Rules 4, 8, 11 and 12 of LANGUAGE.md by the compiler's own tree: what calls what, how deep, and who makes objects. */
public final class CallsTest {
    private static final int DEEPEST = 8;
    private static final Set<String> LIBRARY = Set.of("System.arraycopy", "Arrays.fill", "Math.max", "Math.min", "Integer.bitCount",
        "String.length", "String.charAt");
    private static int wrong = 0;

    private final Map<String, Set<String>> calls = new TreeMap<>();
    private final Map<String, Integer> depths = new TreeMap<>();
    private final Deque<String> open = new ArrayDeque<>();

    public static void main(String[] args) throws Exception {
        CallsTest test = new CallsTest();
        test.read(Path.of(System.getProperty("project.root", ".")).resolve("src/main/java/PepperPolicy.java"));
        check(test.calls.size() > 150, "only " + test.calls.size() + " methods were found");
        int deepest = 0;
        for (String method : List.copyOf(test.calls.keySet())) deepest = Math.max(deepest, test.depth(method));
        check(deepest <= DEEPEST, "calls go " + deepest + " deep");
        check(deepest > 3, "calls go only " + deepest + " deep: they were not followed");
        System.out.println(wrong == 0 ? "calls are as they have to be" : wrong + " wrong");
        if (wrong != 0) System.exit(1);
    }

    private static void check(boolean good, String what) {
        if (!good) {
            wrong++;
            System.out.println(what);
        }
    }

    private void read(Path source) throws Exception {
        JavaCompiler compiler = ToolProvider.getSystemJavaCompiler();
        try (StandardJavaFileManager files = compiler.getStandardFileManager(null, null, null)) {
            JavacTask task = (JavacTask) compiler.getTask(null, files, null, List.of("-proc:none"), null, files.getJavaFileObjects(source));
            for (CompilationUnitTree unit : task.parse()) {
                task.analyze();
                new Scanner(Trees.instance(task)).scan(unit, null);
            }
        }
    }

    private int depth(String method) {
        if (!calls.containsKey(method)) return 1;
        if (open.contains(method)) {
            check(false, method + " comes back to itself");
            return 1;
        }
        if (depths.containsKey(method)) return depths.get(method);
        open.push(method);
        int most = 0;
        for (String called : calls.get(method)) most = Math.max(most, depth(called));
        open.pop();
        depths.put(method, most + 1);
        return most + 1;
    }

    private final class Scanner extends TreePathScanner<Void, Void> {
        private final Trees trees;
        private String now = null;

        Scanner(Trees trees) {
            this.trees = trees;
        }

        @Override
        public Void visitMethod(MethodTree tree, Void nothing) {
            now = name(trees.getElement(getCurrentPath()));
            check(calls.put(now, new TreeSet<>()) == null, now + " is there twice");
            check(tree.getParameters().size() <= 7, now + " takes too much");
            super.visitMethod(tree, nothing);
            now = null;
            return null;
        }

        @Override
        public Void visitMethodInvocation(MethodInvocationTree tree, Void nothing) {
            Element called = trees.getElement(getCurrentPath());
            String name = name(called);
            boolean own = name.startsWith("PepperPolicy.");
            // The constructor that the compiler writes calls the one of Object.
            boolean above = called.getSimpleName().contentEquals("<init>");
            check(own || above || LIBRARY.contains(name.substring(0, name.indexOf('('))), name + " is called in " + now);
            if (now != null && !above) calls.get(now).add(name);
            return super.visitMethodInvocation(tree, nothing);
        }

        @Override
        public Void visitNewClass(NewClassTree tree, Void nothing) {
            onlyAtFirst("an object");
            return super.visitNewClass(tree, nothing);
        }

        @Override
        public Void visitNewArray(NewArrayTree tree, Void nothing) {
            onlyAtFirst("an array");
            return super.visitNewArray(tree, nothing);
        }

        // What is made is made in fields and constructors, there in loops with a counter alone.
        private void onlyAtFirst(String what) {
            check(now == null || now.contains("<init>"), what + " is made in " + now);
            for (TreePath path = getCurrentPath(); path != null; path = path.getParentPath()) {
                Tree.Kind kind = path.getLeaf().getKind();
                check(kind != Tree.Kind.WHILE_LOOP && kind != Tree.Kind.DO_WHILE_LOOP, what + " is made in a loop without a counter");
                if (path.getLeaf() instanceof ForLoopTree loop) check(loop.getCondition() != null, what + " is made in a loop without an end");
            }
        }

        private String name(Element element) {
            ExecutableElement method = (ExecutableElement) element;
            StringBuilder name = new StringBuilder(method.toString());
            for (Element in = method.getEnclosingElement(); in != null && in.getSimpleName().length() > 0; in = in.getEnclosingElement()) {
                if (!in.getKind().isClass() && !in.getKind().isInterface()) break;
                name.insert(0, in.getSimpleName() + ".");
            }
            return name.toString().replace(method.getEnclosingElement().getSimpleName() + "." + method.getEnclosingElement().getSimpleName() + "(",
                method.getEnclosingElement().getSimpleName() + ".<init>(");
        }
    }
}
