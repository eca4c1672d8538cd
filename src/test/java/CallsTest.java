import com.sun.source.tree.ClassTree;
import com.sun.source.tree.MethodInvocationTree;
import com.sun.source.tree.MethodTree;
import com.sun.source.tree.NewClassTree;
import com.sun.source.tree.Tree;
import com.sun.source.tree.VariableTree;
import com.sun.source.util.JavacTask;
import com.sun.source.util.TreePathScanner;
import com.sun.source.util.Trees;
import java.io.IOException;
import java.nio.file.Path;
import java.util.ArrayDeque;
import java.util.Deque;
import java.util.HashMap;
import java.util.List;
import java.util.Map;
import java.util.Set;
import java.util.TreeSet;
import javax.lang.model.element.Element;
import javax.tools.JavaCompiler;
import javax.tools.StandardJavaFileManager;
import javax.tools.ToolProvider;

/** Who calls whom in the class, by javac's own reading: LANGUAGE.md's rules 4, 8 and 11. */
public final class CallsTest {
    private static final Path SOURCE = Path.of("src/main/java/WindFrontiers.java");
    private static final int DEEPEST = 8;
    private static final Set<String> LIBRARY = Set.of("java.lang.Integer.bitCount(int)", "java.lang.Object.Object()");
    private static final Due DUE = new Due("CallsTest");

    public static void main(String[] args) throws IOException {
        Map<String, Set<String>> calls = callsIn(SOURCE);
        DUE.is("the calls were found", calls.containsKey("WindFrontiers.strand()") ? 1 : 0, 1);
        Set<String> library = new TreeSet<>();
        for (String caller : calls.keySet()) {
            for (String called : calls.get(caller)) {
                if (!called.startsWith("WindFrontiers.")) {
                    library.add(called);
                }
            }
            deepest(calls, caller, new ArrayDeque<>());
        }
        DUE.is("of the library, nothing else is called: " + library, LIBRARY.containsAll(library) ? 1 : 0, 1);
        DUE.end();
    }

    private static void deepest(Map<String, Set<String>> calls, String caller, Deque<String> open) {
        boolean again = open.contains(caller);
        open.addLast(caller);
        DUE.is("no recursion: " + open, again ? 1 : 0, 0);
        DUE.is("not too deep: " + open, open.size() <= DEEPEST ? 1 : 0, 1);
        if (!again && open.size() <= DEEPEST) {
            for (String called : calls.getOrDefault(caller, Set.of())) {
                if (called.startsWith("WindFrontiers.")) {
                    deepest(calls, called, open);
                }
            }
        }
        open.removeLast();
    }

    private static Map<String, Set<String>> callsIn(Path source) throws IOException {
        JavaCompiler compiler = ToolProvider.getSystemJavaCompiler();
        try (StandardJavaFileManager files = compiler.getStandardFileManager(null, null, null)) {
            JavacTask task = (JavacTask) compiler.getTask(null, files, null, List.of("-proc:none"), null,
                    files.getJavaFileObjects(source));
            Collector collector = new Collector(Trees.instance(task));
            Iterable<? extends Tree> units = task.parse();
            task.analyze();
            for (Tree unit : units) {
                collector.scan(unit, null);
            }
            return collector.calls;
        }
    }

    /** A field's initialiser is counted as a method of its own, called by none. */
    private static final class Collector extends TreePathScanner<Void, String> {
        final Map<String, Set<String>> calls = new HashMap<>();
        private final Trees trees;

        Collector(Trees trees) {
            this.trees = trees;
        }

        @Override
        public Void visitClass(ClassTree tree, String caller) {
            return super.visitClass(tree, null);
        }

        @Override
        public Void visitMethod(MethodTree tree, String caller) {
            return super.visitMethod(tree, name());
        }

        @Override
        public Void visitVariable(VariableTree tree, String caller) {
            return super.visitVariable(tree, caller == null ? name() : caller);
        }

        @Override
        public Void visitMethodInvocation(MethodInvocationTree tree, String caller) {
            add(caller);
            return super.visitMethodInvocation(tree, caller);
        }

        @Override
        public Void visitNewClass(NewClassTree tree, String caller) {
            add(caller);
            return super.visitNewClass(tree, caller);
        }

        private void add(String caller) {
            calls.computeIfAbsent(String.valueOf(caller), key -> new TreeSet<>()).add(name());
        }

        private String name() {
            Element element = trees.getElement(getCurrentPath());
            Element owner = element.getEnclosingElement();
            return owner + "." + element;
        }
    }
}
