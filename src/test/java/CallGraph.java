import com.sun.source.tree.CompilationUnitTree;
import com.sun.source.tree.MethodInvocationTree;
import com.sun.source.tree.MethodTree;
import com.sun.source.tree.NewClassTree;
import com.sun.source.util.JavacTask;
import com.sun.source.util.TreePathScanner;
import com.sun.source.util.Trees;
import java.io.IOException;
import java.nio.file.Path;
import java.util.ArrayList;
import java.util.HashMap;
import java.util.LinkedHashMap;
import java.util.LinkedHashSet;
import java.util.List;
import java.util.Map;
import java.util.Set;
import java.util.TreeSet;
import javax.lang.model.element.Element;
import javax.lang.model.element.ExecutableElement;
import javax.tools.JavaCompiler;
import javax.tools.StandardJavaFileManager;
import javax.tools.ToolProvider;

/** Which methods of a file call which, and how deep that goes, as the compiler itself reads it. */
final class CallGraph {
    private final Map<String, Set<String>> callees = new LinkedHashMap<>();
    private final Map<String, Integer> depths = new HashMap<>();
    private final Set<String> recursive = new TreeSet<>();

    CallGraph(Path file) throws IOException {
        JavaCompiler compiler = ToolProvider.getSystemJavaCompiler();
        try (StandardJavaFileManager files = compiler.getStandardFileManager(null, null, null)) {
            JavacTask task = (JavacTask) compiler.getTask(null, files, null, List.of("-proc:none"), null,
                files.getJavaFileObjects(file));
            Iterable<? extends CompilationUnitTree> units = task.parse();
            task.analyze();
            for (CompilationUnitTree unit : units) {
                new Calls(Trees.instance(task)).scan(unit, null);
            }
        }
        for (String method : callees.keySet()) {
            depthOf(method, new ArrayList<>());
        }
    }

    /** What is called or made that the file does not hold itself. */
    Set<String> library() {
        Set<String> library = new TreeSet<>();
        callees.values().forEach(library::addAll);
        library.removeAll(callees.keySet());
        return library;
    }

    Set<String> methods() {
        return callees.keySet();
    }

    /** How many of the file's own methods stand open at most when this one is called, itself included. */
    int depthOf(String method) {
        return depths.getOrDefault(method, 0);
    }

    Set<String> recursive() {
        return recursive;
    }

    private int depthOf(String method, List<String> open) {
        if (open.contains(method)) {
            recursive.add(method);
            return 0;
        }
        if (!callees.containsKey(method)) {
            return 0;
        }
        if (!depths.containsKey(method)) {
            List<String> nowOpen = new ArrayList<>(open);
            nowOpen.add(method);
            int deepest = 0;
            for (String callee : callees.get(method)) {
                deepest = Math.max(deepest, depthOf(callee, nowOpen));
            }
            depths.put(method, deepest + 1);
        }
        return depths.get(method);
    }

    private final class Calls extends TreePathScanner<Void, Void> {
        private final Trees trees;
        private String caller = "";

        Calls(Trees trees) {
            this.trees = trees;
        }

        @Override
        public Void visitMethod(MethodTree method, Void nothing) {
            String outer = caller;
            caller = nameOf(trees.getElement(getCurrentPath()));
            callees.computeIfAbsent(caller, c -> new LinkedHashSet<>());
            super.visitMethod(method, nothing);
            caller = outer;
            return null;
        }

        @Override
        public Void visitMethodInvocation(MethodInvocationTree call, Void nothing) {
            note();
            return super.visitMethodInvocation(call, nothing);
        }

        @Override
        public Void visitNewClass(NewClassTree made, Void nothing) {
            note();
            return super.visitNewClass(made, nothing);
        }

        private void note() {
            Element callee = trees.getElement(getCurrentPath());
            if (callee instanceof ExecutableElement && !caller.isEmpty()) {
                callees.get(caller).add(nameOf(callee));
            }
        }

        private String nameOf(Element method) {
            return method.getEnclosingElement() + "." + method;
        }
    }
}
