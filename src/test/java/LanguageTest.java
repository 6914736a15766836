import com.sun.source.tree.*;
import com.sun.source.util.JavacTask;
import com.sun.source.util.SourcePositions;
import com.sun.source.util.TreePath;
import com.sun.source.util.TreePathScanner;
import com.sun.source.util.Trees;
import java.nio.file.Path;
import java.util.ArrayList;
import java.util.HashSet;
import java.util.List;
import java.util.Set;
import javax.lang.model.element.Modifier;
import javax.tools.JavaCompiler;
import javax.tools.StandardJavaFileManager;
import javax.tools.ToolProvider;

/** The rules of LANGUAGE.md that can be seen from the tree of the class's source. */
public final class LanguageTest extends TreePathScanner<Void, Void> {
    private static final Set<String> FACE = Set.of("state", "shop", "customer", "set", "act", "hours", "feed", "end",
        "text", "fault", "of", "who", "book", "goes", "cheaply", "tramp", "coin", "pays", "told", "after", "ring",
        "errand", "served", "lamps", "thread", "threads", "earn", "earned", "written", "year", "price", "sums",
        "waltz", "knows", "shutter", "lifted", "game", "undo", "image", "look");
    private static final Set<Tree.Kind> FORBIDDEN = Set.of(Tree.Kind.THROW, Tree.Kind.TRY, Tree.Kind.CATCH,
        Tree.Kind.SYNCHRONIZED, Tree.Kind.ASSERT, Tree.Kind.LAMBDA_EXPRESSION, Tree.Kind.MEMBER_REFERENCE,
        Tree.Kind.SWITCH_EXPRESSION, Tree.Kind.DOUBLE_LITERAL, Tree.Kind.FLOAT_LITERAL, Tree.Kind.ANNOTATION);
    private static final Set<String> LIBRARY = Set.of("Arrays.fill", "System.arraycopy", "Math.min", "Math.max",
        "Math.abs", "Math.floorMod", "Integer.bitCount", "WORDS.length", "WORDS.charAt", "SIGNS.indexOf");
    private static final Set<String> LIBRARY_CLASSES = Set.of("Arrays", "System", "Math", "Integer", "Long", "String");
    private static final Due due = new Due("LanguageTest");

    private final CompilationUnitTree unit;
    private final SourcePositions positions;
    private final Set<String> ownMethods = new HashSet<>();
    private final List<String> faceMethods = new ArrayList<>();
    private int classes = 0;

    private LanguageTest(CompilationUnitTree unit, SourcePositions positions) {
        this.unit = unit;
        this.positions = positions;
    }

    public static void main(String[] args) throws Exception {
        JavaCompiler compiler = ToolProvider.getSystemJavaCompiler();
        try (StandardJavaFileManager files = compiler.getStandardFileManager(null, null, null)) {
            JavacTask task = (JavacTask) compiler.getTask(null, files, null, null, null,
                files.getJavaFileObjects(Path.of("src/main/java/ArcadePoles.java")));
            for (CompilationUnitTree unit : task.parse()) {
                LanguageTest test = new LanguageTest(unit, Trees.instance(task).getSourcePositions());
                new TreePathScanner<Void, Void>() {
                    @Override
                    public Void visitMethod(MethodTree method, Void none) {
                        test.ownMethods.add(method.getName().toString());
                        return super.visitMethod(method, none);
                    }
                }.scan(new TreePath(unit), null);
                test.scan(new TreePath(unit), null);
                due.is("1: methods of the face", new HashSet<>(test.faceMethods).equals(FACE) ? 1 : 0, 1);
                due.is("1: each once", test.faceMethods.size(), FACE.size());
                due.yes("11: at most twelve classes, not " + test.classes, test.classes <= 12);
            }
        }
        due.close();
    }

    private long line(Tree tree) {
        return unit.getLineMap().getLineNumber(positions.getStartPosition(unit, tree));
    }

    private void must(String rule, Tree tree, boolean kept) {
        due.yes("rule " + rule + " at line " + line(tree), kept);
    }

    private boolean inFace() {
        for (TreePath path = getCurrentPath().getParentPath(); path != null; path = path.getParentPath()) {
            if (path.getLeaf() instanceof ClassTree) {
                return ((ClassTree) path.getLeaf()).getSimpleName().contentEquals("ArcadePoles");
            }
        }
        return true;
    }

    @Override
    public Void scan(Tree tree, Void none) {
        if (tree != null) {
            must("6, " + tree.getKind(), tree, !FORBIDDEN.contains(tree.getKind()));
        }
        return super.scan(tree, none);
    }

    @Override
    public Void visitClass(ClassTree tree, Void none) {
        classes++;
        Set<Modifier> flags = tree.getModifiers().getFlags();
        boolean face = tree.getSimpleName().contentEquals("ArcadePoles");
        must("1", tree, flags.contains(Modifier.FINAL) && flags.contains(face ? Modifier.PUBLIC : Modifier.STATIC)
            && face != flags.contains(Modifier.PRIVATE));
        int fields = 0;
        for (Tree member : tree.getMembers()) {
            must("5, no initialiser block", member, member.getKind() != Tree.Kind.BLOCK);
            if (member instanceof VariableTree
                && !((VariableTree) member).getModifiers().getFlags().contains(Modifier.STATIC)) {
                fields++;
            }
        }
        must("11, fields " + fields, tree, fields <= 20);
        return super.visitClass(tree, none);
    }

    @Override
    public Void visitVariable(VariableTree tree, Void none) {
        if (getCurrentPath().getParentPath().getLeaf() instanceof ClassTree) {
            Set<Modifier> flags = tree.getModifiers().getFlags();
            must("5", tree, !flags.contains(Modifier.STATIC) || flags.contains(Modifier.FINAL));
            must("1", tree, !inFace() || flags.contains(Modifier.PRIVATE) || tree.getName().contentEquals("NONE"));
        }
        return super.visitVariable(tree, none);
    }

    @Override
    public Void visitMethod(MethodTree tree, Void none) {
        String name = tree.getName().toString();
        Set<Modifier> flags = tree.getModifiers().getFlags();
        if (flags.contains(Modifier.PUBLIC)) {
            must("1", tree, inFace());
            if (!name.equals("<init>")) {
                faceMethods.add(name);
            }
        } else {
            must("1, " + name, tree, !FACE.contains(name) && (!inFace() || flags.contains(Modifier.PRIVATE)));
        }
        must("11, parameters", tree, tree.getParameters().size() <= 7);
        long from = line(tree);
        long to = unit.getLineMap().getLineNumber(positions.getEndPosition(unit, tree));
        must("11, length of " + name, tree, to - from < 60);
        return super.visitMethod(tree, none);
    }

    @Override
    public Void visitMethodInvocation(MethodInvocationTree tree, Void none) {
        String called = tree.getMethodSelect().toString();
        String name = called.substring(called.lastIndexOf('.') + 1);
        must("4, " + called, tree, LIBRARY.contains(called) || ownMethods.contains(name));
        return super.visitMethodInvocation(tree, none);
    }

    /** What is taken of a library class must stand in the list, be it called or not. */
    @Override
    public Void visitMemberSelect(MemberSelectTree tree, Void none) {
        boolean library = LIBRARY_CLASSES.contains(tree.getExpression().toString());
        must("4, " + tree, tree, !library || LIBRARY.contains(tree.toString()));
        return super.visitMemberSelect(tree, none);
    }

    private void isMade(Tree tree) {
        for (TreePath path = getCurrentPath().getParentPath(); path != null; path = path.getParentPath()) {
            if (path.getLeaf() instanceof MethodTree) {
                must("12, made by the constructor alone", tree,
                    ((MethodTree) path.getLeaf()).getName().contentEquals("<init>"));
            }
        }
    }

    @Override
    public Void visitNewClass(NewClassTree tree, Void none) {
        must("2", tree, tree.getClassBody() == null);
        isMade(tree);
        return super.visitNewClass(tree, none);
    }

    @Override
    public Void visitNewArray(NewArrayTree tree, Void none) {
        isMade(tree);
        return super.visitNewArray(tree, none);
    }

    @Override
    public Void visitBinary(BinaryTree tree, Void none) {
        boolean text = tree.getLeftOperand().getKind() == Tree.Kind.STRING_LITERAL
            || tree.getRightOperand().getKind() == Tree.Kind.STRING_LITERAL;
        must("10, texts joined by +", tree, !text);
        return super.visitBinary(tree, none);
    }
}
