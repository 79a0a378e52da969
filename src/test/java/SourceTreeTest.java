import com.sun.source.tree.ArrayAccessTree;
import com.sun.source.tree.AssignmentTree;
import com.sun.source.tree.ExpressionTree;
import com.sun.source.tree.LambdaExpressionTree;
import com.sun.source.tree.LiteralTree;
import com.sun.source.tree.MemberReferenceTree;
import com.sun.source.tree.MethodInvocationTree;
import com.sun.source.tree.MethodTree;
import com.sun.source.tree.NewArrayTree;
import com.sun.source.tree.NewClassTree;
import com.sun.source.tree.PrimitiveTypeTree;
import com.sun.source.tree.ThrowTree;
import com.sun.source.tree.TryTree;
import com.sun.source.tree.TypeCastTree;
import com.sun.source.util.JavacTask;
import com.sun.source.util.TreePathScanner;
import com.sun.source.util.Trees;
import java.io.IOException;
import java.nio.file.Path;
import java.util.ArrayDeque;
import java.util.ArrayList;
import java.util.Deque;
import java.util.List;
import java.util.Map;
import java.util.Set;
import java.util.TreeMap;
import java.util.TreeSet;
import javax.lang.model.element.Element;
import javax.lang.model.element.Modifier;
import javax.tools.JavaCompiler;
import javax.tools.StandardJavaFileManager;
import javax.tools.ToolProvider;

/** Rules of LANGUAGE.md that the compiler's tree of the source shows: who calls whom, and what is made where. */
public final class SourceTreeTest {
    private static final int DEEPEST = 8;
    private static final int METHODS_LEAST = 100;
    private static final int FACES = 42;
    private static final Set<String> LIBRARY = Set.of("java.lang.String.length", "java.lang.String.charAt", "java.lang.Math.max",
            "java.lang.Math.min", "java.lang.Math.abs", "java.lang.Math.floorDiv", "java.lang.Integer.bitCount",
            "java.lang.System.arraycopy", "java.util.Arrays.fill", "java.lang.Object.<init>");
    private static final Set<String> THROWN = Set.of("IllegalStateException", "IllegalArgumentException",
            "IndexOutOfBoundsException", "NoSuchElementException");
    private static final Set<String> RECURSIVE = Set.of("IceJudge.Reader.sum", "IceJudge.Reader.atom");

    private static final Map<String, Set<String>> calls = new TreeMap<>();
    private static final Set<String> faces = new TreeSet<>();

    public static void main(String[] args) throws IOException {
        JavaCompiler compiler = ToolProvider.getSystemJavaCompiler();
        try (StandardJavaFileManager files = compiler.getStandardFileManager(null, null, null)) {
            JavacTask task = (JavacTask) compiler.getTask(null, files, null, List.of("-proc:none"), null,
                    files.getJavaFileObjects(Path.of("src/main/java/IceJudge.java")));
            Scanner scanner = new Scanner(Trees.instance(task));
            var units = task.parse();
            task.analyze();
            scanner.scan(units, null);
        }
        if (calls.size() < METHODS_LEAST || faces.size() != FACES) {
            Check.report(calls.size() + " methods and " + faces.size() + " public ones were seen");
        }
        recursion();
        depth();
        Check.finish();
    }

    private static final class Scanner extends TreePathScanner<Void, Void> {
        private final Trees trees;
        /** Empty outside of methods, where fields are made. */
        private String method = "";
        private boolean constructs = true;

        Scanner(Trees trees) {
            this.trees = trees;
        }

        private static String fullName(Element element) {
            return element.getEnclosingElement() + "." + element.getSimpleName();
        }

        @Override
        public Void visitMethod(MethodTree tree, Void nothing) {
            Element element = trees.getElement(getCurrentPath());
            method = fullName(element);
            constructs = tree.getReturnType() == null;
            calls.put(method, new TreeSet<>());
            if (element.getModifiers().contains(Modifier.PUBLIC) && !constructs) {
                faces.add(method);
            }
            super.visitMethod(tree, nothing);
            method = "";
            constructs = true;
            return null;
        }

        @Override
        public Void visitMethodInvocation(MethodInvocationTree tree, Void nothing) {
            String called = fullName(trees.getElement(getCurrentPath()));
            if (!called.startsWith("IceJudge") && !LIBRARY.contains(called)) {
                Check.report(method + " calls " + called);
            }
            if (!method.isEmpty()) {
                calls.get(method).add(called);
            }
            return super.visitMethodInvocation(tree, nothing);
        }

        @Override
        public Void visitNewClass(NewClassTree tree, Void nothing) {
            if (!constructs && !THROWN.contains(tree.getIdentifier().toString())) {
                Check.report(method + " makes " + tree);
            }
            return super.visitNewClass(tree, nothing);
        }

        @Override
        public Void visitNewArray(NewArrayTree tree, Void nothing) {
            if (!constructs) {
                Check.report(method + " makes " + tree);
            }
            return super.visitNewArray(tree, nothing);
        }

        @Override
        public Void visitThrow(ThrowTree tree, Void nothing) {
            ExpressionTree thrown = tree.getExpression();
            boolean written = thrown instanceof NewClassTree made && THROWN.contains(made.getIdentifier().toString())
                    && made.getArguments().size() == 1 && made.getArguments().get(0) instanceof LiteralTree;
            if (!written || constructs) {
                Check.report(method + " has " + tree);
            }
            return super.visitThrow(tree, nothing);
        }

        @Override
        public Void visitTypeCast(TypeCastTree tree, Void nothing) {
            if (!(tree.getType() instanceof PrimitiveTypeTree)) {
                Check.report(method + " casts " + tree);
            }
            return super.visitTypeCast(tree, nothing);
        }

        /** Rows of the class itself, with names in capitals, are never changed. */
        @Override
        public Void visitAssignment(AssignmentTree tree, Void nothing) {
            if (tree.getVariable() instanceof ArrayAccessTree row && row.getExpression().toString().matches("[A-Z_.]+")) {
                Check.report(method + " changes " + tree);
            }
            return super.visitAssignment(tree, nothing);
        }

        @Override
        public Void visitTry(TryTree tree, Void nothing) {
            Check.report(method + " has " + tree);
            return super.visitTry(tree, nothing);
        }

        @Override
        public Void visitLambdaExpression(LambdaExpressionTree tree, Void nothing) {
            Check.report(method + " has " + tree);
            return super.visitLambdaExpression(tree, nothing);
        }

        @Override
        public Void visitMemberReference(MemberReferenceTree tree, Void nothing) {
            Check.report(method + " has " + tree);
            return super.visitMemberReference(tree, nothing);
        }
    }

    private static void recursion() {
        for (String method : calls.keySet()) {
            boolean again = reaches(method, method);
            if (again != RECURSIVE.contains(method)) {
                Check.report(method + (again ? " calls itself" : " does not call itself any more"));
            }
        }
    }

    private static boolean reaches(String from, String to) {
        Set<String> seen = new TreeSet<>();
        Deque<String> open = new ArrayDeque<>(calls.get(from));
        while (!open.isEmpty()) {
            String next = open.pop();
            if (next.equals(to)) {
                return true;
            }
            if (seen.add(next)) {
                open.addAll(calls.getOrDefault(next, Set.of()));
            }
        }
        return false;
    }

    private static void depth() {
        for (String face : faces) {
            List<String> chain = deepest(face, new ArrayDeque<>());
            if (chain.size() > DEEPEST) {
                Check.report(chain.size() + " deep: " + chain);
            }
        }
    }

    /** The longest chain of calls, a method of the recursion once only. */
    private static List<String> deepest(String method, Deque<String> above) {
        List<String> longest = List.of();
        above.addLast(method);
        for (String next : calls.getOrDefault(method, Set.of())) {
            if (!above.contains(next)) {
                List<String> chain = deepest(next, above);
                longest = chain.size() > longest.size() ? chain : longest;
            }
        }
        above.removeLast();
        List<String> whole = new ArrayList<>(List.of(method));
        whole.addAll(longest);
        return whole;
    }
}
