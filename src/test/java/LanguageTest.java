import com.sun.source.tree.ArrayTypeTree;
import com.sun.source.tree.BinaryTree;
import com.sun.source.tree.ClassTree;
import com.sun.source.tree.CompilationUnitTree;
import com.sun.source.tree.DoWhileLoopTree;
import com.sun.source.tree.EnhancedForLoopTree;
import com.sun.source.tree.ForLoopTree;
import com.sun.source.tree.IdentifierTree;
import com.sun.source.tree.LambdaExpressionTree;
import com.sun.source.tree.LiteralTree;
import com.sun.source.tree.MemberReferenceTree;
import com.sun.source.tree.MethodInvocationTree;
import com.sun.source.tree.MethodTree;
import com.sun.source.tree.NewArrayTree;
import com.sun.source.tree.NewClassTree;
import com.sun.source.tree.PrimitiveTypeTree;
import com.sun.source.tree.SynchronizedTree;
import com.sun.source.tree.ThrowTree;
import com.sun.source.tree.Tree;
import com.sun.source.tree.TryTree;
import com.sun.source.tree.VariableTree;
import com.sun.source.tree.WhileLoopTree;
import com.sun.source.util.JavacTask;
import com.sun.source.util.TreePath;
import com.sun.source.util.TreePathScanner;
import com.sun.source.util.Trees;
import java.io.IOException;
import java.nio.file.Path;
import java.util.HashSet;
import java.util.List;
import java.util.Map;
import java.util.Set;
import java.util.TreeMap;
import java.util.TreeSet;
import javax.lang.model.element.Element;
import javax.lang.model.element.ElementKind;
import javax.lang.model.element.Modifier;
import javax.tools.JavaCompiler;
import javax.tools.StandardJavaFileManager;
import javax.tools.ToolProvider;

/** What LANGUAGE.md asks of the program's text, as far as its tree tells it; some checks are stricter. */
final class LanguageTest {
    private static final Set<String> LIBRARY_CALLS = Set.of(
            "java.lang.String.length()", "java.lang.String.charAt(int)", "java.lang.String.indexOf(int)",
            "java.lang.Math.min(int,int)", "java.lang.Math.max(int,int)");
    private static final Set<String> LIBRARY_TYPES = Set.of("int", "long", "boolean", "void", "char", "String");
    private static final Set<String> EXCEPTIONS = Set.of("IllegalStateException", "IllegalArgumentException",
            "UnsupportedOperationException", "NoSuchElementException");
    private static final Set<String> RECURSIVE = Set.of("readEntity", "readParts", "printEntity");
    private static final Checks CHECKS = new Checks();

    private LanguageTest() {
    }

    public static void main(String[] args) throws IOException {
        JavaCompiler compiler = ToolProvider.getSystemJavaCompiler();
        StandardJavaFileManager files = compiler.getStandardFileManager(null, null, null);
        JavacTask task = (JavacTask) compiler.getTask(null, files, null, List.of("-proc:none"), null,
                files.getJavaFileObjects(Path.of("src/main/java/MailTree.java")));
        CompilationUnitTree unit = task.parse().iterator().next();
        task.analyze();
        Walk walk = new Walk(unit, Trees.instance(task));
        walk.scan(unit, null);
        walk.checkClasses();
        new Calls(walk.calls).check();
        CHECKS.end();
    }

    /** Looks at every node of the program's tree. */
    private static final class Walk extends TreePathScanner<Void, Void> {
        final Map<String, Set<String>> calls = new TreeMap<>();
        private final CompilationUnitTree unit;
        private final Trees trees;
        private final Set<String> ownClasses = new TreeSet<>();
        private final Set<String> usedTypes = new TreeSet<>();

        Walk(CompilationUnitTree program, Trees all) {
            unit = program;
            trees = all;
        }

        void checkClasses() {
            CHECKS.of("rule 11: some twelve classes");
            CHECKS.same("classes", ownClasses.size() <= 12, true);
            CHECKS.of("rule 3: types");
            for (String type : usedTypes) {
                String plain = type.endsWith("[]") ? type.substring(0, type.length() - 2) : type;
                boolean known = LIBRARY_TYPES.contains(plain) || ownClasses.contains(plain)
                        || EXCEPTIONS.contains(plain);
                CHECKS.same(type, known, true);
            }
        }

        private String place(Tree node) {
            return "line " + lineOf(node, true);
        }

        private long lineOf(Tree node, boolean first) {
            long at = first ? trees.getSourcePositions().getStartPosition(unit, node)
                    : trees.getSourcePositions().getEndPosition(unit, node);
            return unit.getLineMap().getLineNumber(at);
        }

        private void none(String rule, Tree node) {
            CHECKS.of(rule);
            CHECKS.same(place(node), node.getKind(), "nothing of this kind");
        }

        /** The way to the method in which the node stands, or null. */
        private TreePath wayToMethod() {
            TreePath way = getCurrentPath();
            while (way != null && !(way.getLeaf() instanceof MethodTree)) {
                way = way.getParentPath();
            }
            return way;
        }

        private boolean isInConstructor() {
            TreePath way = wayToMethod();
            return way != null && way.getLeaf() instanceof MethodTree m && m.getReturnType() == null;
        }

        /** The compiler itself adds constructors, which stand nowhere in the text. */
        private boolean isWritten(MethodTree m) {
            return trees.getSourcePositions().getEndPosition(unit, m) >= 0;
        }

        private Element elementOf(Tree node) {
            return trees.getElement(new TreePath(getCurrentPath(), node));
        }

        private static String nameOf(Element e) {
            return e.getEnclosingElement() + "." + e;
        }

        @Override
        public Void visitClass(ClassTree c, Void nothing) {
            ownClasses.add(c.getSimpleName().toString());
            CHECKS.of("rule 2: static nested classes alone");
            boolean outer = c.getSimpleName().contentEquals("MailTree");
            CHECKS.same(place(c), outer || c.getModifiers().getFlags().contains(Modifier.STATIC), true);
            CHECKS.same(place(c), getCurrentPath().getParentPath().getLeaf() instanceof MethodTree, false);
            CHECKS.of("rule 11: some twenty fields");
            long fields = c.getMembers().stream().filter(m -> m instanceof VariableTree v
                    && !v.getModifiers().getFlags().contains(Modifier.STATIC)).count();
            CHECKS.same(place(c), fields <= 20, true);
            return super.visitClass(c, nothing);
        }

        @Override
        public Void visitMethod(MethodTree m, Void nothing) {
            if (isWritten(m)) {
                CHECKS.of("rule 11: seven parameters, some sixty lines");
                CHECKS.same(place(m), m.getParameters().size() <= 7, true);
                CHECKS.same(place(m), lineOf(m, false) - lineOf(m, true) < 60, true);
            }
            calls.computeIfAbsent(nameOf(trees.getElement(getCurrentPath())), k -> new TreeSet<>());
            return super.visitMethod(m, nothing);
        }

        @Override
        public Void visitMethodInvocation(MethodInvocationTree call, Void nothing) {
            Element called = elementOf(call.getMethodSelect());
            boolean own = ownsElement(called);
            TreePath caller = wayToMethod();
            if (own && caller != null) {
                calls.computeIfAbsent(nameOf(trees.getElement(caller)), k -> new TreeSet<>()).add(nameOf(called));
            }
            boolean superclass = called.getKind() == ElementKind.CONSTRUCTOR;
            CHECKS.of("rule 4: the library");
            CHECKS.same(nameOf(called), own || superclass || LIBRARY_CALLS.contains(nameOf(called)), true);
            return super.visitMethodInvocation(call, nothing);
        }

        private static boolean ownsElement(Element e) {
            Element at = e;
            while (at.getEnclosingElement() != null && at.getEnclosingElement().getKind() != ElementKind.PACKAGE) {
                at = at.getEnclosingElement();
            }
            return at.getSimpleName().contentEquals("MailTree");
        }

        @Override
        public Void visitVariable(VariableTree v, Void nothing) {
            if (v.getModifiers().getFlags().contains(Modifier.STATIC)) {
                CHECKS.of("rule 5: static fields are final constants of int or String, written out");
                String type = v.getType().toString();
                CHECKS.same(place(v), type.equals("int") || type.equals("String"), true);
                CHECKS.same(place(v), v.getModifiers().getFlags().contains(Modifier.FINAL), true);
                CHECKS.same(place(v), v.getInitializer() instanceof LiteralTree, true);
            }
            usedTypes.add(v.getType().toString());
            return super.visitVariable(v, nothing);
        }

        @Override
        public Void visitArrayType(ArrayTypeTree type, Void nothing) {
            CHECKS.of("rule 3: arrays of one dimension");
            CHECKS.same(place(type), type.getType() instanceof ArrayTypeTree, false);
            return super.visitArrayType(type, nothing);
        }

        @Override
        public Void visitPrimitiveType(PrimitiveTypeTree type, Void nothing) {
            usedTypes.add(type.toString());
            return super.visitPrimitiveType(type, nothing);
        }

        @Override
        public Void visitNewClass(NewClassTree made, Void nothing) {
            CHECKS.of("rule 12: calls make no objects but their exceptions; no anonymous classes");
            boolean thrown = getCurrentPath().getParentPath().getLeaf() instanceof ThrowTree;
            CHECKS.same(place(made), thrown || isInConstructor(), true);
            CHECKS.same(place(made), made.getClassBody(), null);
            usedTypes.add(made.getIdentifier().toString());
            return super.visitNewClass(made, nothing);
        }

        @Override
        public Void visitNewArray(NewArrayTree made, Void nothing) {
            CHECKS.of("rule 12: rows are made in constructors");
            CHECKS.same(place(made), isInConstructor(), true);
            CHECKS.same(place(made), made.getDimensions().size(), 1);
            return super.visitNewArray(made, nothing);
        }

        @Override
        public Void visitThrow(ThrowTree thrown, Void nothing) {
            CHECKS.of("rule 6: throw new E(\"a written text\"), never in a constructor");
            boolean made = thrown.getExpression() instanceof NewClassTree e
                    && e.getIdentifier() instanceof IdentifierTree name
                    && EXCEPTIONS.contains(name.getName().toString())
                    && e.getArguments().stream().allMatch(a -> a instanceof LiteralTree);
            CHECKS.same(place(thrown), made, true);
            CHECKS.same(place(thrown), isInConstructor(), false);
            return super.visitThrow(thrown, nothing);
        }

        @Override
        public Void visitBinary(BinaryTree both, Void nothing) {
            if (both.getKind() == Tree.Kind.DIVIDE || both.getKind() == Tree.Kind.REMAINDER) {
                none("rule 7: no division, so no divisor of 0", both);
            }
            if (both.getKind() == Tree.Kind.PLUS) {
                CHECKS.of("rule 10: texts are not joined by +");
                boolean text = "java.lang.String".equals(String.valueOf(trees.getTypeMirror(getCurrentPath())));
                CHECKS.same(place(both), text, false);
            }
            return super.visitBinary(both, nothing);
        }

        @Override
        public Void visitForLoop(ForLoopTree loop, Void nothing) {
            CHECKS.of("rule 9: a counter against a bound");
            CHECKS.same(place(loop), loop.getCondition() != null && loop.getUpdate().size() == 1, true);
            return super.visitForLoop(loop, nothing);
        }

        @Override
        public Void visitWhileLoop(WhileLoopTree loop, Void nothing) {
            none("rule 9: the program's loops all count", loop);
            return super.visitWhileLoop(loop, nothing);
        }

        @Override
        public Void visitDoWhileLoop(DoWhileLoopTree loop, Void nothing) {
            none("rule 9: the program's loops all count", loop);
            return super.visitDoWhileLoop(loop, nothing);
        }

        @Override
        public Void visitEnhancedForLoop(EnhancedForLoopTree loop, Void nothing) {
            none("rule 12: no iterators", loop);
            return super.visitEnhancedForLoop(loop, nothing);
        }

        @Override
        public Void visitLambdaExpression(LambdaExpressionTree lambda, Void nothing) {
            none("rule 2: no lambda", lambda);
            return super.visitLambdaExpression(lambda, nothing);
        }

        @Override
        public Void visitMemberReference(MemberReferenceTree reference, Void nothing) {
            none("rule 2: no method reference", reference);
            return super.visitMemberReference(reference, nothing);
        }

        @Override
        public Void visitTry(TryTree attempt, Void nothing) {
            none("rule 6: the program catches nothing", attempt);
            return super.visitTry(attempt, nothing);
        }

        @Override
        public Void visitSynchronized(SynchronizedTree block, Void nothing) {
            none("rule 6: no synchronized", block);
            return super.visitSynchronized(block, nothing);
        }
    }

    /** Which method calls which others. */
    private static final class Calls {
        private final Map<String, Set<String>> calls;

        Calls(Map<String, Set<String>> all) {
            calls = all;
        }

        void check() {
            CHECKS.of("rules 8 and 11: recursion is guarded, other calls go at most eight deep");
            for (String method : calls.keySet()) {
                String name = method.substring(method.lastIndexOf('.', method.indexOf('(')) + 1, method.indexOf('('));
                CHECKS.same(method, reached(method).contains(method), RECURSIVE.contains(name));
                CHECKS.same(method, depth(method, new HashSet<>()) <= 8, true);
            }
        }

        private Set<String> reached(String from) {
            Set<String> all = new TreeSet<>(calls.getOrDefault(from, Set.of()));
            for (int before = -1; before != all.size();) {
                before = all.size();
                for (String called : Set.copyOf(all)) {
                    all.addAll(calls.getOrDefault(called, Set.of()));
                }
            }
            return all;
        }

        /** How many methods stand open at once, each at most one time. */
        private int depth(String method, Set<String> open) {
            if (!open.add(method)) {
                return 0;
            }
            int deepest = 0;
            for (String called : calls.getOrDefault(method, Set.of())) {
                deepest = Math.max(deepest, depth(called, open));
            }
            open.remove(method);
            return deepest + 1;
        }
    }
}
