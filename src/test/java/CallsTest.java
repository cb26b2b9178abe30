import com.sun.source.tree.ClassTree;
import com.sun.source.tree.CompilationUnitTree;
import com.sun.source.tree.MethodInvocationTree;
import com.sun.source.tree.MethodTree;
import com.sun.source.tree.NewClassTree;
import com.sun.source.tree.VariableTree;
import com.sun.source.util.JavacTask;
import com.sun.source.util.TreePath;
import com.sun.source.util.TreePathScanner;
import com.sun.source.util.Trees;
import java.io.IOException;
import java.nio.file.Path;
import java.util.HashMap;
import java.util.LinkedHashSet;
import java.util.List;
import java.util.Map;
import java.util.Set;
import javax.lang.model.element.Element;
import javax.lang.model.element.Modifier;
import javax.tools.JavaCompiler;
import javax.tools.StandardJavaFileManager;
import javax.tools.ToolProvider;

/**
 * What of LANGUAGE.md only the compiler sees: which method calls which. Calls go at most eight
 * deep, none calls itself, what is not of the program itself is of the library that is listed.
 */
public final class CallsTest {
    private static final Path SOURCE = Path.of("src/main/java/ClockZones.java");
    private static final int DEEPEST = 8;
    private static final int MOST_FIELDS = 20;
    private static final Set<String> LIBRARY = Set.of("java.lang.Object.<init>", "java.util.Arrays.fill",
        "java.lang.System.arraycopy", "java.lang.Math.max", "java.lang.Math.min");

    /** A method by its class and name, with what it calls; a constructor has what its fields call. */
    private final Map<String, Set<String>> calls = new HashMap<>();
    private final Map<String, Integer> fields = new HashMap<>();

    public static void main(String[] args) throws IOException {
        CallsTest test = new CallsTest();
        test.read();
        test.judge();
        Due.done();
    }

    private void read() throws IOException {
        JavaCompiler compiler = ToolProvider.getSystemJavaCompiler();
        try (StandardJavaFileManager files = compiler.getStandardFileManager(null, null, null)) {
            JavacTask task = (JavacTask) compiler.getTask(null, files, null, List.of("-proc:none"), null,
                files.getJavaFileObjects(SOURCE));
            Iterable<? extends CompilationUnitTree> units = task.parse();
            task.analyze();
            for (CompilationUnitTree unit : units) {
                new Reader(Trees.instance(task)).scan(new TreePath(unit), null);
            }
        }
    }

    private final class Reader extends TreePathScanner<Void, Void> {
        private final Trees trees;

        Reader(Trees trees) {
            this.trees = trees;
        }

        private void note() {
            calls.computeIfAbsent(caller(), name -> new LinkedHashSet<>())
                .add(nameOf(trees.getElement(getCurrentPath())));
        }

        /** What a field is made with is done by the constructor. */
        private String caller() {
            TreePath at = getCurrentPath();
            while (!(at.getLeaf() instanceof MethodTree) && !(at.getLeaf() instanceof ClassTree)) {
                at = at.getParentPath();
            }
            Element found = trees.getElement(at);
            return at.getLeaf() instanceof MethodTree ? nameOf(found) : found + ".<init>";
        }

        @Override
        public Void visitMethodInvocation(MethodInvocationTree tree, Void nothing) {
            note();
            return super.visitMethodInvocation(tree, nothing);
        }

        @Override
        public Void visitNewClass(NewClassTree tree, Void nothing) {
            note();
            return super.visitNewClass(tree, nothing);
        }

        @Override
        public Void visitVariable(VariableTree tree, Void nothing) {
            boolean isField = getCurrentPath().getParentPath().getLeaf() instanceof ClassTree;
            if (isField && !tree.getModifiers().getFlags().contains(Modifier.STATIC)) {
                fields.merge(trees.getElement(getCurrentPath().getParentPath()).toString(), 1, Integer::sum);
            }
            return super.visitVariable(tree, nothing);
        }
    }

    private static String nameOf(Element method) {
        return method.getEnclosingElement() + "." + method.getSimpleName();
    }

    private void judge() {
        Due.hold("the constructor makes a net", calls.getOrDefault("ClockZones.<init>", Set.of())
            .contains("ClockZones.Net.<init>"));
        Due.hold("explore() uses the search", calls.getOrDefault("ClockZones.explore", Set.of())
            .contains("ClockZones.Search.meetAll"));
        for (String caller : calls.keySet()) {
            int depth = depth(caller, new LinkedHashSet<>());
            Due.hold(caller + " goes " + depth + " deep, at most " + DEEPEST, depth <= DEEPEST);
            for (String called : calls.get(caller)) {
                Due.hold(caller + " may call " + called,
                    called.startsWith("ClockZones.") || LIBRARY.contains(called));
            }
        }
        for (Map.Entry<String, Integer> one : fields.entrySet()) {
            Due.hold(one + " fields are few", one.getValue() <= MOST_FIELDS);
        }
    }

    private int depth(String method, Set<String> open) {
        if (!open.add(method)) {
            Due.hold(open + " call one another", false);
            return DEEPEST + 1;
        }
        int most = 0;
        for (String called : calls.getOrDefault(method, Set.of())) {
            most = Math.max(most, depth(called, open));
        }
        open.remove(method);
        return most + 1;
    }
}
