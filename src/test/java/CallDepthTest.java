import com.sun.source.tree.ClassTree;
import com.sun.source.tree.CompilationUnitTree;
import com.sun.source.tree.ExpressionTree;
import com.sun.source.tree.MethodInvocationTree;
import com.sun.source.tree.MethodTree;
import com.sun.source.tree.NewClassTree;
import com.sun.source.util.JavacTask;
import com.sun.source.util.TreePath;
import com.sun.source.util.TreePathScanner;
import com.sun.source.util.Trees;
import java.io.IOException;
import java.nio.file.Path;
import java.util.ArrayDeque;
import java.util.ArrayList;
import java.util.HashMap;
import java.util.List;
import java.util.Map;
import java.util.TreeMap;
import java.util.TreeSet;
import javax.lang.model.element.Element;
import javax.lang.model.element.ExecutableElement;
import javax.tools.JavaCompiler;
import javax.tools.StandardJavaFileManager;
import javax.tools.ToolProvider;

/** Rules 8 and 11 of LANGUAGE.md: who calls whom in the source, how deep calls go, and who calls itself. */
public final class CallDepthTest {
    private static final int DEEPEST = 8;

    /** For each method of the class those of it that it calls; calls of the library are left out. */
    private final Map<String, TreeSet<String>> calls = new TreeMap<>();
    private final Map<String, Integer> depths = new HashMap<>();
    private final TreeSet<String> face = new TreeSet<>();

    private CallDepthTest() {
    }

    public static void main(String[] args) throws IOException {
        CallDepthTest test = new CallDepthTest();
        test.read(Path.of(System.getProperty("main.source", "src/main/java/FlintHeap.java")));
        test.look();
        Check.end("CallDepthTest");
    }

    private void read(Path source) throws IOException {
        JavaCompiler compiler = ToolProvider.getSystemJavaCompiler();
        StandardJavaFileManager files = compiler.getStandardFileManager(null, null, null);
        JavacTask task = (JavacTask) compiler.getTask(null, files, null, List.of("-proc:none"), null,
                files.getJavaFileObjects(source));
        Iterable<? extends CompilationUnitTree> units = task.parse();
        task.analyze();
        Trees trees = Trees.instance(task);
        for (CompilationUnitTree unit : units) {
            new Caller(trees).scan(unit, null);
        }
    }

    private final class Caller extends TreePathScanner<Void, Void> {
        private final Trees trees;
        private String method = "";

        Caller(Trees trees) {
            this.trees = trees;
        }

        @Override
        public Void visitClass(ClassTree node, Void none) {
            String outer = method;
            method = "";
            super.visitClass(node, none);
            method = outer;
            return null;
        }

        @Override
        public Void visitMethod(MethodTree node, Void none) {
            Element element = trees.getElement(getCurrentPath());
            method = nameOf(element);
            calls.putIfAbsent(method, new TreeSet<>());
            if (element.getModifiers().contains(javax.lang.model.element.Modifier.PUBLIC)) {
                face.add(method);
            }
            super.visitMethod(node, none);
            method = "";
            return null;
        }

        @Override
        public Void visitMethodInvocation(MethodInvocationTree node, Void none) {
            ExpressionTree chosen = node.getMethodSelect();
            note(trees.getElement(new TreePath(getCurrentPath(), chosen)));
            return super.visitMethodInvocation(node, none);
        }

        @Override
        public Void visitNewClass(NewClassTree node, Void none) {
            note(trees.getElement(getCurrentPath()));
            return super.visitNewClass(node, none);
        }

        private void note(Element called) {
            if (called instanceof ExecutableElement && !method.isEmpty() && nameOf(called).startsWith("FlintHeap")) {
                calls.get(method).add(nameOf(called));
            }
        }

        private String nameOf(Element method) {
            return method.getEnclosingElement() + "." + method;
        }
    }

    private void look() {
        Check.due("calls of the face and the constructor", face.size(), 25);
        int deepest = 0;
        for (String method : calls.keySet()) {
            int depth = depthOf(method);
            deepest = Math.max(deepest, depth);
            Check.due("rule 11: " + method + " goes " + depth + " deep", depth <= DEEPEST, true);
        }
        System.out.println("calls that are no recursion go " + deepest + " deep");
        // The text's limit of 5 within one another keeps these two low; nothing else may call itself.
        TreeSet<String> again = new TreeSet<>();
        for (String method : calls.keySet()) {
            if (reached(method).contains(method)) {
                again.add(method.replaceAll(".*\\.(\\w+)\\(.*", "$1"));
            }
        }
        Check.due("rule 8: those that call themselves are " + again,
                again.equals(new TreeSet<>(List.of("readChain", "readPart"))), true);
    }

    /** All methods that can be open above this one. */
    private TreeSet<String> reached(String from) {
        TreeSet<String> found = new TreeSet<>();
        ArrayDeque<String> next = new ArrayDeque<>(calls.get(from));
        while (!next.isEmpty()) {
            String method = next.remove();
            if (calls.containsKey(method) && found.add(method)) {
                next.addAll(calls.get(method));
            }
        }
        return found;
    }

    /** Methods that call one another count once each. */
    private int depthOf(String method) {
        Integer known = depths.get(method);
        if (known != null) {
            return known;
        }
        List<String> together = new ArrayList<>(List.of(method));
        for (String other : reached(method)) {
            if (!other.equals(method) && reached(other).contains(method)) {
                together.add(other);
            }
        }
        int above = 0;
        for (String one : together) {
            for (String called : calls.get(one)) {
                if (!together.contains(called) && calls.containsKey(called)) {
                    above = Math.max(above, depthOf(called));
                }
            }
        }
        for (String one : together) {
            depths.put(one, above + together.size());
        }
        return above + together.size();
    }
}
