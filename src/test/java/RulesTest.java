import com.sun.source.tree.ArrayTypeTree;
import com.sun.source.tree.ClassTree;
import com.sun.source.tree.CompilationUnitTree;
import com.sun.source.tree.LineMap;
import com.sun.source.tree.MethodInvocationTree;
import com.sun.source.tree.MethodTree;
import com.sun.source.tree.NewArrayTree;
import com.sun.source.tree.NewClassTree;
import com.sun.source.tree.Tree;
import com.sun.source.tree.VariableTree;
import com.sun.source.util.JavacTask;
import com.sun.source.util.TreePath;
import com.sun.source.util.TreePathScanner;
import com.sun.source.util.Trees;
import java.io.IOException;
import java.nio.file.Path;
import java.util.ArrayList;
import java.util.List;
import java.util.Map;
import java.util.Set;
import java.util.TreeMap;
import java.util.TreeSet;
import javax.lang.model.element.Element;
import javax.lang.model.element.Modifier;
import javax.tools.JavaCompiler;
import javax.tools.StandardJavaFileManager;
import javax.tools.ToolProvider;

/** Rules 2 to 5, 8 and 11 of LANGUAGE.md, looked at in the tree that javac makes of the program. */
public final class RulesTest {
    private static final Check check = new Check();
    private static final Path PROGRAM = Path.of("src/main/java/TourRooms.java");
    private static final Set<String> LIBRARY = Set.of("java.lang.Integer.bitCount", "java.lang.Math.max",
        "java.lang.Math.min", "java.lang.System.arraycopy", "java.lang.String.length",
        "java.lang.String.charAt", "java.lang.Object.<init>", "java.util.NoSuchElementException.<init>");

    // of each method those of the program that it calls
    private static final Map<String, Set<String>> calls = new TreeMap<>();
    private static final Map<String, Boolean> carriesDepth = new TreeMap<>();
    private static int classes = 0;

    public static void main(String[] args) throws IOException {
        JavaCompiler javac = ToolProvider.getSystemJavaCompiler();
        try (StandardJavaFileManager files = javac.getStandardFileManager(null, null, null)) {
            JavacTask task = (JavacTask) javac.getTask(null, files, null, List.of("-proc:none"), null,
                files.getJavaFileObjects(PROGRAM));
            List<CompilationUnitTree> units = new ArrayList<>();
            task.parse().forEach(units::add);
            task.analyze();
            new Walk(Trees.instance(task), units.get(0)).scan(units.get(0), null);
        }
        check.due("classes, at most 12: " + classes, classes > 0 && classes <= 12, true);
        check.due("methods found", calls.size() > 100, true);
        for (String method : calls.keySet()) {
            deep(method);
            recursion(method);
        }
        check.end();
    }

    /** Rule 11; a method that calls itself again counts once, as each of those it goes through. */
    private static void deep(String method) {
        List<String> chain = longest(method, new ArrayList<>());
        if (chain.size() > 8) {
            check.fail("calls go " + chain.size() + " deep: " + chain);
        }
    }

    private static List<String> longest(String method, List<String> above) {
        above.add(method);
        List<String> best = new ArrayList<>(above);
        for (String next : calls.get(method)) {
            if (!above.contains(next)) {
                List<String> chain = longest(next, above);
                best = chain.size() > best.size() ? chain : best;
            }
        }
        above.remove(above.size() - 1);
        return best;
    }

    /** Rule 8: who can come back to itself carries the depth. */
    private static void recursion(String method) {
        Set<String> reached = new TreeSet<>();
        List<String> open = new ArrayList<>(calls.get(method));
        for (int k = 0; k < open.size(); k++) {
            if (reached.add(open.get(k))) {
                open.addAll(calls.get(open.get(k)));
            }
        }
        if (reached.contains(method) && !carriesDepth.get(method)) {
            check.fail("calls itself and carries no depth: " + method);
        }
    }

    private static final class Walk extends TreePathScanner<Void, Void> {
        private final Trees trees;
        private final CompilationUnitTree unit;
        private String method = null;

        Walk(Trees trees, CompilationUnitTree unit) {
            this.trees = trees;
            this.unit = unit;
        }

        private String nameOf(Element called) {
            return called.getEnclosingElement() + "." + called.getSimpleName();
        }

        @Override
        public Void visitClass(ClassTree tree, Void none) {
            classes++;
            int fields = 0;
            for (Tree member : tree.getMembers()) {
                if (member instanceof VariableTree) {
                    VariableTree field = (VariableTree) member;
                    Set<Modifier> modifiers = field.getModifiers().getFlags();
                    boolean constant = modifiers.contains(Modifier.STATIC);
                    fields += constant ? 0 : 1;
                    check.due("static and not final: " + field, constant && !modifiers.contains(Modifier.FINAL), false);
                }
            }
            check.due("fields of " + tree.getSimpleName() + ", at most 20", fields <= 20, true);
            return super.visitClass(tree, none);
        }

        @Override
        public Void visitMethod(MethodTree tree, Void none) {
            method = nameOf(trees.getElement(getCurrentPath()));
            calls.computeIfAbsent(method, key -> new TreeSet<>());
            boolean depth = tree.getParameters().stream().anyMatch(p -> p.getName().contentEquals("depth"));
            carriesDepth.put(method, depth);
            check.due("parameters of " + method + ", at most 7", tree.getParameters().size() <= 7, true);
            LineMap lines = unit.getLineMap();
            long first = lines.getLineNumber(Math.max(0, trees.getSourcePositions().getStartPosition(unit, tree)));
            long last = lines.getLineNumber(Math.max(0, trees.getSourcePositions().getEndPosition(unit, tree)));
            check.due("lines of " + method + ", at most 60", last - first <= 60, true);
            return super.visitMethod(tree, none);
        }

        private void called(Element element) {
            String name = nameOf(element);
            if (!name.startsWith("TourRooms")) {
                check.due("the library's " + name, LIBRARY.contains(name), true);
            } else if (method != null && !name.endsWith("<init>")) {
                calls.get(method).add(name);
            }
        }

        @Override
        public Void visitMethodInvocation(MethodInvocationTree tree, Void none) {
            called(trees.getElement(new TreePath(getCurrentPath(), tree.getMethodSelect())));
            return super.visitMethodInvocation(tree, none);
        }

        @Override
        public Void visitNewClass(NewClassTree tree, Void none) {
            called(trees.getElement(getCurrentPath()));
            return super.visitNewClass(tree, none);
        }

        @Override
        public Void visitNewArray(NewArrayTree tree, Void none) {
            check.due("dimensions of " + tree, tree.getDimensions().size() == 1, true);
            return super.visitNewArray(tree, none);
        }

        @Override
        public Void visitArrayType(ArrayTypeTree tree, Void none) {
            check.due("an array of arrays: " + tree, tree.getType() instanceof ArrayTypeTree, false);
            return super.visitArrayType(tree, none);
        }
    }
}
