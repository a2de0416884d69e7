import com.sun.source.tree.ClassTree;
import com.sun.source.tree.CompilationUnitTree;
import com.sun.source.tree.MethodInvocationTree;
import com.sun.source.tree.MethodTree;
import com.sun.source.tree.NewClassTree;
import com.sun.source.tree.Tree;
import com.sun.source.util.JavacTask;
import com.sun.source.util.TreePath;
import com.sun.source.util.TreePathScanner;
import com.sun.source.util.Trees;
import java.io.IOException;
import java.nio.file.Path;
import java.util.ArrayList;
import java.util.EnumSet;
import java.util.List;
import java.util.Map;
import java.util.Set;
import java.util.TreeMap;
import java.util.TreeSet;
import javax.lang.model.element.Element;
import javax.lang.model.element.ElementKind;
import javax.tools.JavaCompiler;
import javax.tools.StandardJavaFileManager;
import javax.tools.ToolProvider;

/**
 * Rules 4, 6, 8 and 11 of LANGUAGE.md, as the compiler reads the source: which calls of the library there are, that no
 * call comes back to itself, and how many of them stand open at once.
 */
public final class CallsTest {
    private static final int DEEPEST = 8;
    private static final Set<String> LIBRARY = Set.of("Object.<init>", "Math.abs", "Math.max", "Math.min", "String.length",
            "String.charAt", "System.arraycopy", "Arrays.copyOf", "Arrays.fill");
    private static final Set<Tree.Kind> STRANGE = EnumSet.of(Tree.Kind.THROW, Tree.Kind.TRY, Tree.Kind.CATCH,
            Tree.Kind.SYNCHRONIZED, Tree.Kind.ASSERT, Tree.Kind.LAMBDA_EXPRESSION, Tree.Kind.MEMBER_REFERENCE,
            Tree.Kind.INSTANCE_OF, Tree.Kind.SWITCH_EXPRESSION, Tree.Kind.DOUBLE_LITERAL, Tree.Kind.FLOAT_LITERAL);

    /** Own methods and constructors, each with all own ones that it calls. */
    private static final Map<String, Set<String>> CALLS = new TreeMap<>();

    private CallsTest() { }

    private static final class Walk extends TreePathScanner<Void, Void> {
        private final Trees trees;
        private String caller = "";

        Walk(Trees trees) { this.trees = trees; }

        @Override public Void scan(Tree tree, Void none) {
            if (tree != null) Due.no("a part of the kind " + tree.getKind(), STRANGE.contains(tree.getKind()));
            return super.scan(tree, none);
        }

        /** What a field begins with is made by the constructor. */
        @Override public Void visitClass(ClassTree tree, Void none) {
            String before = caller;
            caller = tree.getSimpleName() + ".<init>";
            super.visitClass(tree, none);
            caller = before;
            return null;
        }

        @Override public Void visitMethod(MethodTree tree, Void none) {
            String before = caller;
            caller = nameOf(trees.getElement(getCurrentPath()));
            CALLS.computeIfAbsent(caller, key -> new TreeSet<>());
            super.visitMethod(tree, none);
            caller = before;
            return null;
        }

        @Override public Void visitMethodInvocation(MethodInvocationTree tree, Void none) {
            note(trees.getElement(new TreePath(getCurrentPath(), tree.getMethodSelect())));
            return super.visitMethodInvocation(tree, none);
        }

        @Override public Void visitNewClass(NewClassTree tree, Void none) {
            Due.yes("a class has a name", tree.getClassBody() == null);
            note(trees.getElement(getCurrentPath()));
            return super.visitNewClass(tree, none);
        }

        private void note(Element called) {
            String name = nameOf(called);
            if (isOwn(called)) CALLS.computeIfAbsent(caller, key -> new TreeSet<>()).add(name);
            else Due.yes("the library's " + name, LIBRARY.contains(name));
        }
    }

    private static boolean isOwn(Element element) {
        Element outermost = element;
        while (outermost.getEnclosingElement().getKind() != ElementKind.PACKAGE) outermost = outermost.getEnclosingElement();
        return outermost.getSimpleName().contentEquals("TapeStudio");
    }

    private static String nameOf(Element method) {
        return method.getEnclosingElement().getSimpleName() + "." + method.getSimpleName();
    }

    private static int depth(String method, List<String> open) {
        Due.no(method + " comes back to itself by " + open, open.contains(method));
        if (open.contains(method)) return 0;
        List<String> now = new ArrayList<>(open);
        now.add(method);
        int deepest = 0;
        for (String called : CALLS.getOrDefault(method, Set.of())) deepest = Math.max(deepest, depth(called, now));
        return deepest + 1;
    }

    private static void walk() throws IOException {
        JavaCompiler compiler = ToolProvider.getSystemJavaCompiler();
        try (StandardJavaFileManager files = compiler.getStandardFileManager(null, null, null)) {
            JavacTask task = (JavacTask) compiler.getTask(null, files, null, List.of("-proc:none"), null,
                    files.getJavaFileObjects(Path.of("src/main/java/TapeStudio.java")));
            Iterable<? extends CompilationUnitTree> units = task.parse();
            task.analyze();
            for (CompilationUnitTree unit : units) new Walk(Trees.instance(task)).scan(unit, null);
        }
    }

    public static void main(String[] args) throws IOException {
        walk();
        Due.yes("the face is walked", CALLS.containsKey("TapeStudio.hand") && CALLS.containsKey("TapeStudio.count"));
        for (String method : CALLS.keySet()) {
            int deep = depth(method, List.of());
            Due.yes(method + " goes " + deep + " deep", deep <= DEEPEST);
        }
        Due.close();
    }
}
