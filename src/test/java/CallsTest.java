import com.sun.source.tree.ClassTree;
import com.sun.source.tree.CompilationUnitTree;
import com.sun.source.tree.MethodInvocationTree;
import com.sun.source.tree.MethodTree;
import com.sun.source.tree.NewClassTree;
import com.sun.source.util.JavacTask;
import com.sun.source.util.TreePathScanner;
import com.sun.source.util.Trees;
import java.io.IOException;
import java.nio.file.Path;
import java.util.ArrayDeque;
import java.util.Deque;
import java.util.List;
import java.util.Map;
import java.util.Set;
import java.util.TreeMap;
import java.util.TreeSet;
import javax.lang.model.element.Element;
import javax.tools.JavaCompiler;
import javax.tools.StandardJavaFileManager;
import javax.tools.ToolProvider;

/** Rules 4, 8, 11 and 12 of LANGUAGE.md, from what each method of the program calls. */
public final class CallsTest {
    private static final int DEEPEST = 8;
    private static final Set<String> LIBRARY = Set.of("String.length()", "String.charAt(int)", "System.arraycopy(Object,int,Object,int,int)",
        "Integer.bitCount(int)", "Integer.signum(int)", "Integer.numberOfTrailingZeros(int)", "Math.max(int,int)", "Object.Object()");

    private final Map<String, Set<String>> called = new TreeMap<>();
    private final Set<String> makers = new TreeSet<>();
    private final Map<String, Integer> depths = new TreeMap<>();

    public static void main(String[] args) throws IOException {
        CallsTest test = new CallsTest();
        test.read(Path.of("src/main/java/RaidMat.java"));
        test.libraryAlone();
        test.noRecursion();
        test.depth();
        test.objectsInConstructorsAlone();
        Talk.finish("CallsTest");
    }

    private void read(Path file) throws IOException {
        JavaCompiler compiler = ToolProvider.getSystemJavaCompiler();
        try (StandardJavaFileManager files = compiler.getStandardFileManager(null, null, null)) {
            JavacTask task = (JavacTask) compiler.getTask(null, files, null, List.of("-proc:none"), null, files.getJavaFileObjects(file));
            Iterable<? extends CompilationUnitTree> units = task.parse();
            task.analyze();
            for (CompilationUnitTree unit : units) {
                new Calls(Trees.instance(task)).scan(unit, null);
            }
        }
    }

    /** Notes for each method, and for what stands in a class outside its methods, what it calls. */
    private final class Calls extends TreePathScanner<Void, Void> {
        private final Trees trees;
        private final Deque<String> within = new ArrayDeque<>();

        Calls(Trees of) {
            trees = of;
        }

        private String nameOf(Element element) {
            String type = element.getEnclosingElement().toString();
            return type.substring(type.lastIndexOf('.') + 1) + "." + element.toString().replace("java.lang.", "");
        }

        @Override
        public Void visitClass(ClassTree tree, Void nothing) {
            within.push("fields of " + tree.getSimpleName());
            super.visitClass(tree, nothing);
            within.pop();
            return null;
        }

        @Override
        public Void visitMethod(MethodTree tree, Void nothing) {
            within.push(nameOf(trees.getElement(getCurrentPath())));
            called.computeIfAbsent(within.peek(), name -> new TreeSet<>());
            super.visitMethod(tree, nothing);
            within.pop();
            return null;
        }

        @Override
        public Void visitMethodInvocation(MethodInvocationTree tree, Void nothing) {
            note();
            return super.visitMethodInvocation(tree, nothing);
        }

        @Override
        public Void visitNewClass(NewClassTree tree, Void nothing) {
            note();
            makers.add(within.peek());
            return super.visitNewClass(tree, nothing);
        }

        @Override
        public Void visitNewArray(com.sun.source.tree.NewArrayTree tree, Void nothing) {
            makers.add(within.peek());
            return super.visitNewArray(tree, nothing);
        }

        private void note() {
            called.computeIfAbsent(within.peek(), name -> new TreeSet<>()).add(nameOf(trees.getElement(getCurrentPath())));
        }
    }

    private void libraryAlone() {
        for (Map.Entry<String, Set<String>> entry : called.entrySet()) {
            for (String name : entry.getValue()) {
                Talk.due("rule 4: " + entry.getKey() + " calls " + name, called.containsKey(name) || LIBRARY.contains(name) ? 1 : 0, 1);
            }
        }
        Talk.due("the program has been read", called.size() > 150 ? 1 : 0, 1);
    }

    private void noRecursion() {
        for (String name : called.keySet()) {
            Talk.due("rule 8: " + name + " does not come to itself", reaches(name, name, new TreeSet<>()) ? 1 : 0, 0);
        }
    }

    private boolean reaches(String from, String to, Set<String> seen) {
        for (String next : called.getOrDefault(from, Set.of())) {
            if (next.equals(to) || seen.add(next) && reaches(next, to, seen)) {
                return true;
            }
        }
        return false;
    }

    private void depth() {
        for (String name : called.keySet()) {
            Talk.due("rule 11: " + name + " goes at most eight deep, itself with it", depthOf(name, 0) <= DEEPEST ? 1 : 0, 1);
        }
    }

    private int depthOf(String name, int guard) {
        if (depths.containsKey(name) || guard > 50) {
            return depths.getOrDefault(name, guard);
        }
        int deepest = 0;
        for (String next : called.getOrDefault(name, Set.of())) {
            deepest = Math.max(deepest, depthOf(next, guard + 1));
        }
        depths.put(name, deepest + 1);
        return deepest + 1;
    }

    /** All calls of a run share one room: what is made is made once, with the object. */
    private void objectsInConstructorsAlone() {
        for (String maker : makers) {
            String type = maker.split("\\.")[0];
            boolean isMaking = maker.startsWith("fields of ") || maker.startsWith(type + "." + type + "(");
            Talk.due("rule 12: " + maker + " makes objects", isMaking ? 1 : 0, 1);
        }
        Talk.due("makers have been seen", makers.size() > 5 ? 1 : 0, 1);
    }
}
