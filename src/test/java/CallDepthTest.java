import com.sun.source.tree.ClassTree;
import com.sun.source.tree.CompilationUnitTree;
import com.sun.source.tree.MethodInvocationTree;
import com.sun.source.tree.MethodTree;
import com.sun.source.tree.NewClassTree;
import com.sun.source.util.JavacTask;
import com.sun.source.util.TreePathScanner;
import com.sun.source.util.Trees;
import java.io.IOException;
import java.nio.file.Path;
import java.util.ArrayList;
import java.util.List;
import java.util.Map;
import java.util.Set;
import java.util.TreeMap;
import java.util.TreeSet;
import javax.lang.model.element.Element;
import javax.lang.model.element.ElementKind;
import javax.tools.JavaCompiler;
import javax.tools.JavaFileObject;
import javax.tools.StandardJavaFileManager;
import javax.tools.ToolProvider;

/** Rules 8 and 11 of ../shared/LANGUAGE.md: how deep calls go, and which call themselves, as javac reads them. */
public final class CallDepthTest {
    private static final int MOST_DEEP = 8;
    private static final Set<String> RECURSIONS = Set.of("Survey.treeQueries");
    private static final Due DUE = new Due();

    // By each method those that it calls, the library's ones too.
    private final Map<String, Set<String>> calls = new TreeMap<>();

    public static void main(String[] args) throws IOException {
        CallDepthTest test = new CallDepthTest();
        test.readAll(Path.of("src/main/java/TagReaders.java"));
        test.nothingIsForgotten();
        test.recursions();
        test.depths();
        DUE.end();
    }

    private void readAll(Path source) throws IOException {
        JavaCompiler compiler = ToolProvider.getSystemJavaCompiler();
        try (StandardJavaFileManager files = compiler.getStandardFileManager(null, null, null)) {
            Iterable<? extends JavaFileObject> sources = files.getJavaFileObjects(source);
            JavacTask task = (JavacTask) compiler.getTask(null, files, null, null, null, sources);
            Reading reading = new Reading(Trees.instance(task), calls);
            for (CompilationUnitTree unit : task.parse()) {
                task.analyze();
                reading.scan(unit, null);
            }
        }
    }

    private void nothingIsForgotten() {
        DUE.part("each method is called, or of the face");
        Set<String> called = new TreeSet<>();
        calls.values().forEach(called::addAll);
        for (String method : calls.keySet()) {
            // Classes of static methods alone are never made.
            boolean isOutside = method.startsWith("TagReaders.") || method.endsWith(".new");
            DUE.is(method, called.contains(method) || isOutside, true);
        }
        DUE.is("tick passes", calls.get("TagReaders.tick").contains("World.pass"), true);
        DUE.is("a World makes Readers", calls.get("World.new").contains("Reader.new"), true);
        DUE.is("the library's", calls.get("Journal.add").contains("Math.floorMod"), true);
    }

    private void recursions() {
        DUE.part("rule 8");
        for (String method : calls.keySet()) {
            DUE.is(method + " calls itself", calls.get(method).contains(method), RECURSIONS.contains(method));
        }
    }

    private void depths() {
        DUE.part("rule 11");
        for (String method : calls.keySet()) {
            List<String> longest = longestFrom(method, new ArrayList<>());
            DUE.is(longest + " is so deep that it is", longest.size() <= MOST_DEEP ? 0 : longest.size(), 0);
        }
    }

    private List<String> longestFrom(String method, List<String> open) {
        DUE.is("calls in a ring: " + open + " " + method, open.contains(method), false);
        List<String> longest = new ArrayList<>();
        if (open.contains(method)) {
            return longest;
        }
        open.add(method);
        for (String called : calls.getOrDefault(method, Set.of())) {
            List<String> rest = called.equals(method) ? List.of() : longestFrom(called, open);
            longest = rest.size() > longest.size() ? new ArrayList<>(rest) : longest;
        }
        open.remove(method);
        longest.add(0, method);
        return longest;
    }

    /** What fields are made with belongs to the constructor. */
    private static final class Reading extends TreePathScanner<Void, String> {
        private final Trees trees;
        private final Map<String, Set<String>> calls;

        Reading(Trees trees, Map<String, Set<String>> calls) {
            this.trees = trees;
            this.calls = calls;
        }

        @Override
        public Void visitClass(ClassTree tree, String outer) {
            return super.visitClass(tree, tree.getSimpleName() + ".new");
        }

        @Override
        public Void visitMethod(MethodTree tree, String outer) {
            String name = nameOf(trees.getElement(getCurrentPath()));
            calls.computeIfAbsent(name, n -> new TreeSet<>());
            return super.visitMethod(tree, name);
        }

        @Override
        public Void visitMethodInvocation(MethodInvocationTree tree, String caller) {
            note(caller);
            return super.visitMethodInvocation(tree, caller);
        }

        @Override
        public Void visitNewClass(NewClassTree tree, String caller) {
            note(caller);
            return super.visitNewClass(tree, caller);
        }

        private void note(String caller) {
            String called = nameOf(trees.getElement(getCurrentPath()));
            // Each constructor begins with the one of Object: a call that javac writes.
            if (!called.equals("Object.new")) {
                calls.computeIfAbsent(caller, n -> new TreeSet<>()).add(called);
            }
        }

        private static String nameOf(Element method) {
            boolean isMaker = method.getKind() == ElementKind.CONSTRUCTOR;
            return method.getEnclosingElement().getSimpleName() + "." + (isMaker ? "new" : method.getSimpleName());
        }
    }
}
