import com.sun.source.tree.CompilationUnitTree;
import com.sun.source.tree.MethodInvocationTree;
import com.sun.source.tree.MethodTree;
import com.sun.source.util.JavacTask;
import com.sun.source.util.TreePath;
import com.sun.source.util.TreePathScanner;
import com.sun.source.util.Trees;
import java.nio.file.Path;
import java.util.ArrayDeque;
import java.util.Deque;
import java.util.HashSet;
import java.util.LinkedHashMap;
import java.util.LinkedHashSet;
import java.util.Map;
import java.util.Set;
import javax.lang.model.element.Element;
import javax.tools.JavaCompiler;
import javax.tools.StandardJavaFileManager;
import javax.tools.ToolProvider;

/** Rules 8 and 11 of LANGUAGE.md: which methods of the class call one another, and how deep calls go. */
public final class CallsTest extends TreePathScanner<Void, Void> {
    private static final int MOST_DEEP = 8;
    /** A guard in `opened` on how many ( and not are open keeps these low. */
    private static final Set<String> RECURSIVE = Set.of("Reader.conditions", "Reader.condition", "Reader.opened");
    private static final Due due = new Due("CallsTest");

    private final Trees trees;
    private final Map<String, Set<String>> calls = new LinkedHashMap<>();
    private final Set<String> face = new LinkedHashSet<>();
    private String within = "";

    private CallsTest(Trees trees) {
        this.trees = trees;
    }

    public static void main(String[] args) throws Exception {
        JavaCompiler compiler = ToolProvider.getSystemJavaCompiler();
        try (StandardJavaFileManager files = compiler.getStandardFileManager(null, null, null)) {
            JavacTask task = (JavacTask) compiler.getTask(null, files, null, null, null,
                files.getJavaFileObjects(Path.of("src/main/java/ArcadePoles.java")));
            Iterable<? extends CompilationUnitTree> units = task.parse();
            task.analyze();
            CallsTest test = new CallsTest(Trees.instance(task));
            for (CompilationUnitTree unit : units) {
                test.scan(new TreePath(unit), null);
            }
            test.check();
        }
        due.close();
    }

    @Override
    public Void visitMethod(MethodTree tree, Void none) {
        within = nameOf(trees.getElement(getCurrentPath()));
        calls.putIfAbsent(within, new LinkedHashSet<>());
        if (within.startsWith("ArcadePoles.")) {
            face.add(within);
        }
        return super.visitMethod(tree, none);
    }

    @Override
    public Void visitMethodInvocation(MethodInvocationTree tree, Void none) {
        Element called = trees.getElement(new TreePath(getCurrentPath(), tree.getMethodSelect()));
        calls.computeIfAbsent(within, w -> new LinkedHashSet<>()).add(nameOf(called));
        return super.visitMethodInvocation(tree, none);
    }

    private static String nameOf(Element method) {
        return method.getEnclosingElement().getSimpleName() + "." + method.getSimpleName();
    }

    private void check() {
        due.yes("methods were found", face.size() > 40 && calls.size() > 100);
        for (String one : calls.keySet()) {
            due.is("8: does " + one + " come to itself", comesTo(one, one) ? 1 : 0, RECURSIVE.contains(one) ? 1 : 0);
        }
        for (String one : face) {
            Deque<String> deepest = deepestFrom(one, new HashSet<>());
            due.yes("11: at most eight deep " + deepest, deepest.size() <= MOST_DEEP);
        }
    }

    private boolean comesTo(String from, String to) {
        Set<String> seen = new HashSet<>();
        Deque<String> next = new ArrayDeque<>(calls.get(from));
        while (!next.isEmpty()) {
            String one = next.pop();
            if (one.equals(to)) {
                return true;
            }
            if (seen.add(one)) {
                next.addAll(calls.getOrDefault(one, Set.of()));
            }
        }
        return false;
    }

    /** The longest chain of calls with no method twice in it, the library's own calls not looked into. */
    private Deque<String> deepestFrom(String one, Set<String> open) {
        Deque<String> deepest = new ArrayDeque<>();
        open.add(one);
        for (String called : calls.getOrDefault(one, Set.of())) {
            if (!open.contains(called)) {
                Deque<String> chain = deepestFrom(called, open);
                deepest = chain.size() > deepest.size() ? chain : deepest;
            }
        }
        open.remove(one);
        deepest.addFirst(one);
        return deepest;
    }
}
