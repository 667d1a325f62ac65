import com.sun.source.tree.CompilationUnitTree;
import com.sun.source.tree.MethodInvocationTree;
import com.sun.source.tree.MethodTree;
import com.sun.source.util.JavacTask;
import com.sun.source.util.TreePathScanner;
import com.sun.source.util.Trees;
import java.nio.file.Path;
import java.util.ArrayList;
import java.util.List;
import java.util.Map;
import java.util.Set;
import java.util.TreeMap;
import java.util.TreeSet;
import javax.lang.model.element.Element;
import javax.lang.model.element.Modifier;
import javax.tools.JavaCompiler;
import javax.tools.StandardJavaFileManager;
import javax.tools.ToolProvider;

/** Rules 8 and 11 of LANGUAGE.md: who calls itself, and how deep calls go, as the compiler itself reads the source. */
public final class CallDepthTest {
    private static final Path SOURCE = Path.of("src/main/java/BlindFiddles.java");
    private static final int DEEPEST = 8;

    private static int wrong = 0;
    private static final Map<String, Set<String>> calls = new TreeMap<>();
    private static final Set<String> mayCallItself = new TreeSet<>();
    private static final Map<String, Integer> depths = new TreeMap<>();

    private static void must(boolean holds, String what) {
        if (!holds) {
            wrong++;
            System.out.println("not so: " + what);
        }
    }

    public static void main(String[] args) throws Exception {
        gather();
        must(calls.size() > 100, "all methods are found, not " + calls.size());
        int most = 0;
        for (String method : calls.keySet()) {
            must(mayCallItself.contains(method) || !calls.get(method).contains(method),
                    "rule 8: only a private static method calls itself, not " + method);
            most = Math.max(most, depth(method, new ArrayList<>()));
        }
        must(most <= DEEPEST, "rule 11: calls go at most eight deep, not " + most);
        System.out.println(calls.size() + " methods, calls go " + most + " deep");
        if (wrong != 0) {
            System.exit(1);
        }
    }

    private static void gather() throws Exception {
        JavaCompiler compiler = ToolProvider.getSystemJavaCompiler();
        try (StandardJavaFileManager files = compiler.getStandardFileManager(null, null, null)) {
            JavacTask task = (JavacTask) compiler.getTask(null, files, null, List.of("-proc:none"), null,
                    files.getJavaFileObjects(SOURCE));
            Iterable<? extends CompilationUnitTree> units = task.parse();
            task.analyze();
            for (CompilationUnitTree unit : units) {
                new Scanner(Trees.instance(task)).scan(unit, null);
            }
        }
    }

    /** How many methods stand open at once at most from this one on; one's calls of itself aside. */
    private static int depth(String method, List<String> open) {
        if (open.contains(method)) {
            must(false, "rule 8: " + method + " calls itself by way of " + open);
            return 0;
        }
        Integer known = depths.get(method);
        if (known != null) {
            return known;
        }
        open.add(method);
        int most = 0;
        for (String called : calls.get(method)) {
            if (!called.equals(method)) {
                most = Math.max(most, depth(called, open));
            }
        }
        open.remove(method);
        depths.put(method, most + 1);
        return most + 1;
    }

    private static final class Scanner extends TreePathScanner<Void, Void> {
        private final Trees trees;
        private String here = "";

        Scanner(Trees trees) {
            this.trees = trees;
        }

        private static String nameOf(Element method) {
            return method.getEnclosingElement().getSimpleName() + "." + method;
        }

        @Override
        public Void visitMethod(MethodTree tree, Void nothing) {
            Element method = trees.getElement(getCurrentPath());
            here = nameOf(method);
            calls.putIfAbsent(here, new TreeSet<>());
            if (method.getModifiers().containsAll(Set.of(Modifier.PRIVATE, Modifier.STATIC))) {
                mayCallItself.add(here);
            }
            return super.visitMethod(tree, nothing);
        }

        @Override
        public Void visitMethodInvocation(MethodInvocationTree tree, Void nothing) {
            Element called = trees.getElement(getCurrentPath());
            boolean isConstructor = called.getSimpleName().contentEquals("<init>");
            if (!isConstructor && called.getEnclosingElement().toString().startsWith("BlindFiddles")) {
                calls.computeIfAbsent(here, name -> new TreeSet<>()).add(nameOf(called));
                calls.putIfAbsent(nameOf(called), new TreeSet<>());
            }
            return super.visitMethodInvocation(tree, nothing);
        }
    }
}
