import com.sun.source.tree.ClassTree;
import com.sun.source.tree.CompilationUnitTree;
import com.sun.source.tree.MethodInvocationTree;
import com.sun.source.tree.MethodTree;
import com.sun.source.tree.NewClassTree;
import com.sun.source.tree.Tree;
import com.sun.source.tree.VariableTree;
import com.sun.source.util.JavacTask;
import com.sun.source.util.TreePath;
import com.sun.source.util.TreePathScanner;
import com.sun.source.util.Trees;
import java.io.IOException;
import java.nio.file.Path;
import java.util.HashMap;
import java.util.LinkedHashMap;
import java.util.LinkedHashSet;
import java.util.List;
import java.util.Map;
import java.util.Set;
import javax.lang.model.element.Element;
import javax.lang.model.element.ElementKind;
import javax.lang.model.element.Modifier;
import javax.tools.JavaCompiler;
import javax.tools.StandardJavaFileManager;
import javax.tools.ToolProvider;

/** The rules of LANGUAGE.md that need the compiler's own reading of the class: who calls whom, and what a class holds. */
public final class DepthTest {
    private static final int DEEPEST = 8;
    private static final int MOST_FIELDS = 20;
    private static final int RING = 1000;

    private final Map<String, Set<String>> calls = new LinkedHashMap<>();
    private final Map<String, Integer> depths = new HashMap<>();
    private final Map<String, String> deeper = new HashMap<>();
    private Trees trees;

    public static void main(String[] args) throws IOException {
        DepthTest test = new DepthTest();
        test.read(Path.of(System.getProperty("project", "."), "src", "main", "java", "MicroSteps.java"));
        test.lookAtDepths();
        Check.finish();
    }

    private void read(Path file) throws IOException {
        JavaCompiler compiler = ToolProvider.getSystemJavaCompiler();
        try (StandardJavaFileManager files = compiler.getStandardFileManager(null, null, null)) {
            JavacTask task = (JavacTask) compiler.getTask(null, files, null, List.of("-proc:none"), null,
                files.getJavaFileObjects(file));
            trees = Trees.instance(task);
            Iterable<? extends CompilationUnitTree> units = task.parse();
            task.analyze();
            for (CompilationUnitTree unit : units) {
                new Scanner().scan(unit, null);
            }
        }
    }

    private void lookAtDepths() {
        Check.holds("methods were found: " + calls.size(), calls.size() > 100);
        for (String method : calls.keySet()) {
            int depth = depthOf(method);
            Check.holds(chainOf(method) + " goes " + depth + " deep", depth <= DEEPEST);
        }
    }

    /** A ring of calls is told as too deep: no method of the class needs one. */
    private int depthOf(String method) {
        Integer known = depths.get(method);
        if (known != null) {
            return known;
        }
        depths.put(method, RING);
        int deepest = 1;
        for (String next : calls.getOrDefault(method, Set.of())) {
            int depth = 1 + depthOf(next);
            if (depth > deepest) {
                deepest = depth;
                deeper.put(method, next);
            }
        }
        depths.put(method, deepest);
        return deepest;
    }

    private String chainOf(String method) {
        StringBuilder chain = new StringBuilder(method);
        String next = deeper.get(method);
        for (int i = 0; i < DEEPEST + 2 && next != null; i++) {
            chain.append(" > ").append(next);
            next = deeper.get(next);
        }
        return chain.toString();
    }

    /** The library's own calls count as one more, to be on the safe side. */
    private final class Scanner extends TreePathScanner<Void, Void> {
        private String method = "";

        @Override
        public Void visitClass(ClassTree tree, Void none) {
            Element type = trees.getElement(getCurrentPath());
            boolean isInside = type.getEnclosingElement().getKind() != ElementKind.PACKAGE;
            Check.holds(type + " is static", !isInside || type.getModifiers().contains(Modifier.STATIC));
            Check.holds(type + " is hidden", !isInside || !type.getModifiers().contains(Modifier.PUBLIC));
            long fields = tree.getMembers().stream().filter(this::isField).count();
            Check.holds(type + " has some twenty fields at most: " + fields, fields <= MOST_FIELDS);
            return super.visitClass(tree, none);
        }

        private boolean isField(Tree member) {
            if (!(member instanceof VariableTree)) {
                return false;
            }
            Set<Modifier> flags = ((VariableTree) member).getModifiers().getFlags();
            boolean isStatic = flags.contains(Modifier.STATIC);
            Check.holds(((VariableTree) member).getName() + " is final, if static",
                !isStatic || flags.contains(Modifier.FINAL));
            return !isStatic;
        }

        @Override
        public Void visitMethod(MethodTree tree, Void none) {
            String outer = method;
            method = nameOf(getCurrentPath());
            calls.put(method, new LinkedHashSet<>());
            super.visitMethod(tree, none);
            method = outer;
            return null;
        }

        @Override
        public Void visitMethodInvocation(MethodInvocationTree tree, Void none) {
            note();
            return super.visitMethodInvocation(tree, none);
        }

        @Override
        public Void visitNewClass(NewClassTree tree, Void none) {
            note();
            return super.visitNewClass(tree, none);
        }

        private void note() {
            String called = nameOf(getCurrentPath());
            if (!called.equals("Object.Object()")) {
                calls.computeIfAbsent(method, m -> new LinkedHashSet<>()).add(called);
            }
        }

        private String nameOf(TreePath path) {
            Element element = trees.getElement(path);
            return element.getEnclosingElement().getSimpleName() + "." + element;
        }
    }
}
