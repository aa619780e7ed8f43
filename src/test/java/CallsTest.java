import com.sun.source.tree.CompilationUnitTree;
import com.sun.source.tree.MethodInvocationTree;
import com.sun.source.tree.MethodTree;
import com.sun.source.tree.NewClassTree;
import com.sun.source.util.JavacTask;
import com.sun.source.util.TreePath;
import com.sun.source.util.TreePathScanner;
import com.sun.source.util.Trees;
import java.io.IOException;
import java.util.ArrayList;
import java.util.HashMap;
import java.util.LinkedHashMap;
import java.util.List;
import java.util.Map;
import java.util.Set;
import java.util.TreeSet;
import javax.lang.model.element.Element;
import javax.tools.JavaCompiler;
import javax.tools.StandardJavaFileManager;
import javax.tools.ToolProvider;

/**
 * Which method of the class calls which: none calls itself, and they go at most eight deep. LANGUAGE.md allows a few calls
 * of the library, but the class needs none.
 */
public final class CallsTest {
    private static final int DEEPEST = 8;

    private final Map<String, Set<String>> callsOf = new LinkedHashMap<>();
    private final Set<String> foreign = new TreeSet<>();
    private final Map<String, Integer> depths = new HashMap<>();
    private final List<String> open = new ArrayList<>();

    private CallsTest() {
    }

    public static void main(String[] args) throws IOException {
        CallsTest calls = new CallsTest();
        calls.read();
        Check.holds("there are methods", calls.callsOf.size() > 50);
        int deepest = 0;
        for (String method : calls.callsOf.keySet()) {
            deepest = Math.max(deepest, calls.depth(method));
        }
        Check.holds("calls go " + deepest + " deep", deepest <= DEEPEST);
        Check.holds("nothing of the library is called: " + calls.foreign, calls.foreign.isEmpty());
        Check.end();
    }

    private void read() throws IOException {
        JavaCompiler compiler = ToolProvider.getSystemJavaCompiler();
        try (StandardJavaFileManager files = compiler.getStandardFileManager(null, null, null)) {
            JavacTask task = (JavacTask) compiler.getTask(null, files, null, List.of("-proc:none"), null,
                files.getJavaFileObjects("src/main/java/UncrossedParts.java"));
            Iterable<? extends CompilationUnitTree> units = task.parse();
            task.analyze();
            Reader reader = new Reader(Trees.instance(task));
            for (CompilationUnitTree unit : units) {
                reader.scan(new TreePath(unit), null);
            }
        }
    }

    /** Notes the calls and the constructors' calls of each method. */
    private final class Reader extends TreePathScanner<Void, Void> {
        private final Trees trees;
        private Set<String> calls = new TreeSet<>();

        Reader(Trees trees) {
            this.trees = trees;
        }

        private String named(Element method) {
            return method.getEnclosingElement() + "." + method;
        }

        @Override
        public Void visitMethod(MethodTree method, Void nothing) {
            calls = new TreeSet<>();
            callsOf.put(named(trees.getElement(getCurrentPath())), calls);
            return super.visitMethod(method, nothing);
        }

        @Override
        public Void visitMethodInvocation(MethodInvocationTree call, Void nothing) {
            note(trees.getElement(getCurrentPath()));
            return super.visitMethodInvocation(call, nothing);
        }

        @Override
        public Void visitNewClass(NewClassTree made, Void nothing) {
            note(trees.getElement(getCurrentPath()));
            return super.visitNewClass(made, nothing);
        }

        /** The constructor of Object, which each constructor begins with, is not written and does not count. */
        private void note(Element called) {
            String name = named(called);
            if (name.startsWith("UncrossedParts.")) {
                calls.add(name);
            } else if (!name.equals("java.lang.Object.Object()")) {
                foreign.add(name);
            }
        }
    }

    /** How many methods stand open at once below this one, and this one. */
    private int depth(String method) {
        if (depths.containsKey(method)) {
            return depths.get(method);
        }
        Check.holds(method + " does not call itself by way of " + open, !open.contains(method));
        if (open.contains(method)) {
            return 0;
        }
        open.add(method);
        int deepest = 0;
        for (String called : callsOf.getOrDefault(method, Set.of())) {
            deepest = Math.max(deepest, depth(called));
        }
        open.remove(method);
        depths.put(method, deepest + 1);
        return deepest + 1;
    }
}
