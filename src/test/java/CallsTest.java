import com.sun.source.tree.CompilationUnitTree;
import com.sun.source.tree.MethodInvocationTree;
import com.sun.source.tree.MethodTree;
import com.sun.source.tree.NewClassTree;
import com.sun.source.util.JavacTask;
import com.sun.source.util.TreePathScanner;
import com.sun.source.util.Trees;
import java.io.IOException;
import java.nio.file.Path;
import java.util.ArrayList;
import java.util.HashMap;
import java.util.HashSet;
import java.util.List;
import java.util.Map;
import java.util.Set;
import java.util.TreeMap;
import java.util.TreeSet;
import javax.lang.model.element.Element;
import javax.tools.JavaCompiler;
import javax.tools.StandardJavaFileManager;
import javax.tools.ToolProvider;

/** LANGUAGE.md, 8 and 11: which methods call themselves, and how deep calls go; run in the project's folder. */
public final class CallsTest {
    private static final int DEEP = 8;
    /** These are kept low by the 7th that is open (FAULT 4) and by how many RIDERS there are. */
    private static final Set<String> RECURSIVE = Set.of("Formula.test", "Formula.both", "Formula.fact", "Formula.sum",
        "Formula.product", "Formula.part", "Formula.pair", "Ferry.seat");

    private final Map<String, Set<String>> calls = new TreeMap<>();
    private final Map<String, Set<String>> reached = new HashMap<>();
    private final Map<String, List<String>> chains = new HashMap<>();

    public static void main(String[] args) throws IOException {
        CallsTest test = new CallsTest();
        test.read(Path.of("src/main/java/CelloBoats.java"));
        test.look();
        Check.finish();
    }

    private void read(Path source) throws IOException {
        JavaCompiler javac = ToolProvider.getSystemJavaCompiler();
        try (StandardJavaFileManager files = javac.getStandardFileManager(null, null, null)) {
            JavacTask task = (JavacTask) javac.getTask(null, files, null, List.of("-proc:none"), null, files.getJavaFileObjects(source));
            Iterable<? extends CompilationUnitTree> units = task.parse();
            task.analyze();
            for (CompilationUnitTree unit : units) {
                new Reader(Trees.instance(task), calls).scan(unit, null);
            }
        }
    }

    /** Gathers the calls of each method to methods of the same file. */
    private static final class Reader extends TreePathScanner<Void, String> {
        private final Trees trees;
        private final Map<String, Set<String>> calls;

        Reader(Trees trees, Map<String, Set<String>> calls) {
            this.trees = trees;
            this.calls = calls;
        }

        private String here() {
            Element method = trees.getElement(getCurrentPath());
            return method.getEnclosingElement().toString().replaceFirst("^CelloBoats\\.", "") + "." + method.getSimpleName();
        }

        private void add(String caller) {
            Element method = trees.getElement(getCurrentPath());
            if (caller != null && method.getEnclosingElement().toString().startsWith("CelloBoats")) {
                calls.get(caller).add(here());
            }
        }

        @Override
        public Void visitMethod(MethodTree tree, String caller) {
            calls.putIfAbsent(here(), new TreeSet<>());
            return super.visitMethod(tree, here());
        }

        @Override
        public Void visitMethodInvocation(MethodInvocationTree tree, String caller) {
            add(caller);
            return super.visitMethodInvocation(tree, caller);
        }

        @Override
        public Void visitNewClass(NewClassTree tree, String caller) {
            add(caller);
            return super.visitNewClass(tree, caller);
        }
    }

    private void look() {
        Check.due("many methods are there", calls.size() > 100, true);
        for (String method : calls.keySet()) {
            reached.put(method, new HashSet<>());
            reach(method, reached.get(method));
        }
        for (String method : calls.keySet()) {
            boolean recursive = reached.get(method).contains(method);
            Check.due(method + " calls itself", recursive, RECURSIVE.contains(method));
        }
        for (String method : calls.keySet()) {
            List<String> chain = chain(method);
            Check.due("at most " + DEEP + " deep: " + String.join(" > ", chain), chain.size() <= DEEP, true);
        }
    }

    private void reach(String from, Set<String> met) {
        for (String to : calls.getOrDefault(from, Set.of())) {
            if (met.add(to)) {
                reach(to, met);
            }
        }
    }

    private boolean together(String one, String other) {
        return one.equals(other) || reached.get(one).contains(other) && reached.get(other).contains(one);
    }

    /** The longest row of calls from a method on; methods that call one another count as one. */
    private List<String> chain(String method) {
        if (chains.containsKey(method)) {
            return chains.get(method);
        }
        List<String> longest = List.of();
        for (String member : calls.keySet()) {
            if (!together(method, member)) {
                continue;
            }
            for (String to : calls.get(member)) {
                if (calls.containsKey(to) && !together(method, to) && chain(to).size() > longest.size()) {
                    longest = chain(to);
                }
            }
        }
        List<String> whole = new ArrayList<>(List.of(method));
        whole.addAll(longest);
        chains.put(method, whole);
        return whole;
    }
}
