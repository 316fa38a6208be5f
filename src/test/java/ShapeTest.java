import com.sun.source.tree.ClassTree;
import com.sun.source.tree.CompilationUnitTree;
import com.sun.source.tree.MethodInvocationTree;
import com.sun.source.tree.MethodTree;
import com.sun.source.tree.NewClassTree;
import com.sun.source.tree.ThrowTree;
import com.sun.source.tree.Tree;
import com.sun.source.tree.VariableTree;
import com.sun.source.util.JavacTask;
import com.sun.source.util.TreePathScanner;
import com.sun.source.util.Trees;
import java.io.IOException;
import java.nio.file.Path;
import java.util.HashMap;
import java.util.HashSet;
import java.util.List;
import java.util.Map;
import java.util.Set;
import java.util.TreeSet;
import javax.lang.model.element.Element;
import javax.lang.model.element.Modifier;
import javax.tools.JavaCompiler;
import javax.tools.StandardJavaFileManager;
import javax.tools.ToolProvider;

/** The rules of LANGUAGE.md that the tree of the program shows: the library, what is thrown, sizes, and calls in calls. */
public final class ShapeTest {
    private static final Path PROGRAM = Path.of("src/main/java/MendBench.java");
    private static final int MOST_CLASSES = 13, MOST_FIELDS = 21, MOST_LINES = 60, MOST_PARAMETERS = 7, MOST_CALLS = 8;
    private static final Set<String> LIBRARY = Set.of("java.lang.Long.bitCount", "java.lang.Math.min", "java.lang.Math.max",
            "java.lang.System.arraycopy", "java.util.Arrays.fill");
    private static final Set<String> THROWN = Set.of("IllegalStateException", "IllegalArgumentException", "IndexOutOfBoundsException");

    private final Trees trees;
    private final CompilationUnitTree unit;
    private final Map<String, Set<String>> calls = new HashMap<>();
    private final Map<String, Integer> heights = new HashMap<>();
    private int classes;

    private ShapeTest(Trees trees, CompilationUnitTree unit) {
        this.trees = trees;
        this.unit = unit;
    }

    public static void main(String[] args) throws IOException {
        JavaCompiler compiler = ToolProvider.getSystemJavaCompiler();
        try (StandardJavaFileManager files = compiler.getStandardFileManager(null, null, null)) {
            JavacTask task = (JavacTask) compiler.getTask(null, files, null, List.of("-proc:none"), null, files.getJavaFileObjects(PROGRAM));
            CompilationUnitTree unit = task.parse().iterator().next();
            task.analyze();
            new ShapeTest(Trees.instance(task), unit).check();
        }
        Bench.end();
    }

    private void check() {
        new Walk().scan(unit, null);
        Bench.same("classes, at most " + MOST_CLASSES + ": " + classes, classes <= MOST_CLASSES, true);
        for (String method : new TreeSet<>(calls.keySet())) {
            int height = height(method, new HashSet<>());
            Bench.same("calls in calls of " + method + ", at most " + MOST_CALLS + ": " + height, height <= MOST_CALLS, true);
        }
    }

    /** How deep the calls go that a method makes, itself counted; none comes back to one that stands open. */
    private int height(String method, Set<String> open) {
        Integer known = heights.get(method);
        if (known != null) {
            return known;
        }
        Bench.same(method + " calls itself", open.contains(method), false);
        if (!open.add(method)) {
            return 0;
        }
        int highest = 0;
        for (String called : calls.getOrDefault(method, Set.of())) {
            highest = Math.max(highest, height(called, open));
        }
        open.remove(method);
        heights.put(method, highest + 1);
        return highest + 1;
    }

    private int lineOf(long position) {
        return (int) unit.getLineMap().getLineNumber(position);
    }

    private final class Walk extends TreePathScanner<Void, Void> {
        private String method = "";
        private boolean isMaking;

        @Override
        public Void visitClass(ClassTree told, Void nothing) {
            classes++;
            int fields = 0;
            for (Tree member : told.getMembers()) {
                boolean isStatic = member instanceof VariableTree field && field.getModifiers().getFlags().contains(Modifier.STATIC);
                fields += member instanceof VariableTree && !isStatic ? 1 : 0;
            }
            Bench.same("fields of " + told.getSimpleName() + ", at most " + MOST_FIELDS + ": " + fields, fields <= MOST_FIELDS, true);
            String around = method;
            method = fieldsOf(trees.getElement(getCurrentPath()));
            super.visitClass(told, nothing);
            method = around;
            return null;
        }

        @Override
        public Void visitMethod(MethodTree told, Void nothing) {
            Element element = trees.getElement(getCurrentPath());
            String around = method;
            method = nameOf(element);
            isMaking = told.getReturnType() == null;
            calls.putIfAbsent(method, new HashSet<>());
            if (isMaking) {
                calls.get(method).add(fieldsOf(element.getEnclosingElement()));
            }
            long from = trees.getSourcePositions().getStartPosition(unit, told);
            long to = trees.getSourcePositions().getEndPosition(unit, told);
            int lines = from < 0 || to < 0 ? 0 : lineOf(to) - lineOf(from) + 1;
            Bench.same("lines of " + method + ", at most " + MOST_LINES + ": " + lines, lines <= MOST_LINES, true);
            Bench.same("parameters of " + method, told.getParameters().size() <= MOST_PARAMETERS, true);
            super.visitMethod(told, nothing);
            isMaking = false;
            method = around;
            return null;
        }

        @Override
        public Void visitMethodInvocation(MethodInvocationTree told, Void nothing) {
            called(trees.getElement(getCurrentPath()));
            return super.visitMethodInvocation(told, nothing);
        }

        @Override
        public Void visitNewClass(NewClassTree told, Void nothing) {
            Element made = trees.getElement(getCurrentPath());
            String name = told.getIdentifier().toString();
            if (!THROWN.contains(name)) {
                called(made);
            }
            return super.visitNewClass(told, nothing);
        }

        @Override
        public Void visitThrow(ThrowTree told, Void nothing) {
            NewClassTree made = told.getExpression() instanceof NewClassTree ? (NewClassTree) told.getExpression() : null;
            String name = made == null ? "what stands there already" : made.getIdentifier().toString();
            boolean isWritten = made != null && made.getArguments().stream().allMatch(text -> text.getKind() == Tree.Kind.STRING_LITERAL);
            Bench.same(method + " throws " + name, THROWN.contains(name) && isWritten, true);
            Bench.same(method + " makes an object and throws", isMaking, false);
            return super.visitThrow(told, nothing);
        }

        private void called(Element told) {
            String name = nameOf(told);
            if (name.startsWith("MendBench")) {
                calls.computeIfAbsent(method, key -> new HashSet<>()).add(name);
            } else if (!name.startsWith("java.lang.Object.")) {
                String bare = name.substring(0, name.indexOf('('));
                Bench.same(method + " calls " + bare, LIBRARY.contains(bare), true);
            }
        }

        /** What is made with an object, ahead of its constructor. */
        private String fieldsOf(Element told) {
            return told + ": its fields";
        }

        private String nameOf(Element told) {
            return told.getEnclosingElement() + "." + told;
        }
    }
}
