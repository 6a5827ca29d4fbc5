import com.sun.source.tree.ClassTree;
import com.sun.source.tree.CompilationUnitTree;
import com.sun.source.tree.ExpressionTree;
import com.sun.source.tree.IdentifierTree;
import com.sun.source.tree.LineMap;
import com.sun.source.tree.MemberSelectTree;
import com.sun.source.tree.MethodInvocationTree;
import com.sun.source.tree.MethodTree;
import com.sun.source.tree.NewArrayTree;
import com.sun.source.tree.NewClassTree;
import com.sun.source.tree.Tree;
import com.sun.source.tree.VariableTree;
import com.sun.source.util.JavacTask;
import com.sun.source.util.TreeScanner;
import com.sun.source.util.Trees;
import java.io.IOException;
import java.nio.file.Path;
import java.util.HashMap;
import java.util.List;
import java.util.Map;
import java.util.Set;
import java.util.TreeSet;
import javax.lang.model.element.Modifier;
import javax.tools.JavaCompiler;
import javax.tools.StandardJavaFileManager;
import javax.tools.ToolProvider;

/** The numbers that LANGUAGE.md's rules 4, 8, 11 and 12 name, told from the parsed source. */
public final class LanguageShapeTest {
    private static final Due due = new Due();
    private static final Set<String> LIBRARY =
            Set.of("Math.min", "Math.max", "Integer.bitCount", "Arrays.fill", "System.arraycopy");

    private static final Map<String, Set<String>> calls = new HashMap<>();
    private static int classes;

    public static void main(String[] args) throws IOException {
        JavaCompiler compiler = ToolProvider.getSystemJavaCompiler();
        try (StandardJavaFileManager files = compiler.getStandardFileManager(null, null, null)) {
            JavacTask task = (JavacTask) compiler.getTask(null, files, null, null, null,
                    files.getJavaFileObjects(Path.of("src/main/java/LilyQuarrels.java")));
            CompilationUnitTree unit = task.parse().iterator().next();
            new Shape(unit, Trees.instance(task)).scan(unit, null);
        }
        due.yes("twelve classes at most: " + classes, classes <= 12);
        for (String method : calls.keySet()) {
            int depth = depth(method, List.of());
            due.yes("eight calls deep at most: " + method + " " + depth, depth <= 8);
        }
        due.yes("the deepest is found", calls.containsKey("digest") && depth("digest", List.of()) > 5);
        due.end();
    }

    /** How many calls stand open at most while a method runs, it and the library's with it. */
    private static int depth(String method, List<String> open) {
        if (open.contains(method)) {
            due.yes("no recursion through " + method, false);
            return 0;
        }
        List<String> longer = new java.util.ArrayList<>(open);
        longer.add(method);
        int most = 0;
        for (String callee : calls.getOrDefault(method, Set.of())) {
            most = Math.max(most, depth(callee, longer));
        }
        return 1 + most;
    }

    private static final class Shape extends TreeScanner<Void, String> {
        private final CompilationUnitTree unit;
        private final Trees trees;

        Shape(CompilationUnitTree unit, Trees trees) {
            this.unit = unit;
            this.trees = trees;
        }

        @Override
        public Void visitClass(ClassTree type, String in) {
            classes++;
            int fields = 0;
            for (Tree member : type.getMembers()) {
                if (member instanceof VariableTree field && !field.getModifiers().getFlags().contains(Modifier.STATIC)) {
                    fields++;
                }
            }
            due.yes("twenty fields at most: " + type.getSimpleName() + " " + fields, fields <= 20);
            return super.visitClass(type, null);
        }

        @Override
        public Void visitMethod(MethodTree method, String in) {
            String name = method.getName().toString();
            LineMap lines = unit.getLineMap();
            long first = lines.getLineNumber(trees.getSourcePositions().getStartPosition(unit, method));
            long last = lines.getLineNumber(trees.getSourcePositions().getEndPosition(unit, method));
            due.yes("sixty lines at most: " + name, last - first < 60);
            due.yes("seven parameters at most: " + name, method.getParameters().size() <= 7);
            if (!name.equals("<init>")) {
                due.yes("one method of a name: " + name, calls.put(name, new TreeSet<>()) == null);
            }
            return super.visitMethod(method, name);
        }

        @Override
        public Void visitMethodInvocation(MethodInvocationTree call, String in) {
            ExpressionTree what = call.getMethodSelect();
            String name = what instanceof MemberSelectTree m ? m.getIdentifier().toString() : what.toString();
            if (what instanceof MemberSelectTree m && m.getExpression() instanceof IdentifierTree of
                    && Character.isUpperCase(of.getName().charAt(0)) && !Set.of("Hill", "Text").contains(of.toString())) {
                name = what.toString();
                due.yes("the library has " + name, LIBRARY.contains(name));
            }
            if (in != null && !in.equals("<init>")) {
                calls.get(in).add(name);
            }
            return super.visitMethodInvocation(call, in);
        }

        /** "make rows in constructors and use them again": then no run of calls can fill the room. */
        @Override
        public Void visitNewClass(NewClassTree made, String in) {
            due.yes("objects are made in constructors alone: " + made, in == null || in.equals("<init>"));
            return super.visitNewClass(made, in);
        }

        @Override
        public Void visitNewArray(NewArrayTree made, String in) {
            due.yes("arrays are made in constructors alone: " + made, in == null || in.equals("<init>"));
            return super.visitNewArray(made, in);
        }
    }
}
