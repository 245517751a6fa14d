import com.sun.source.tree.AssertTree;
import com.sun.source.tree.BinaryTree;
import com.sun.source.tree.ClassTree;
import com.sun.source.tree.CompilationUnitTree;
import com.sun.source.tree.EnhancedForLoopTree;
import com.sun.source.tree.ImportTree;
import com.sun.source.tree.InstanceOfTree;
import com.sun.source.tree.LambdaExpressionTree;
import com.sun.source.tree.LiteralTree;
import com.sun.source.tree.MemberReferenceTree;
import com.sun.source.tree.MethodInvocationTree;
import com.sun.source.tree.MethodTree;
import com.sun.source.tree.NewClassTree;
import com.sun.source.tree.SynchronizedTree;
import com.sun.source.tree.ThrowTree;
import com.sun.source.tree.Tree;
import com.sun.source.tree.TryTree;
import com.sun.source.tree.VariableTree;
import com.sun.source.util.JavacTask;
import com.sun.source.util.SourcePositions;
import com.sun.source.util.TreePathScanner;
import com.sun.source.util.Trees;
import java.nio.file.Path;
import java.util.ArrayList;
import java.util.HashMap;
import java.util.HashSet;
import java.util.List;
import java.util.Map;
import java.util.Set;
import java.util.TreeSet;
import javax.lang.model.element.Element;
import javax.lang.model.element.Modifier;
import javax.tools.JavaCompiler;
import javax.tools.StandardJavaFileManager;
import javax.tools.ToolProvider;

/** The rules of LANGUAGE.md that can be seen in the source's tree. */
final class LanguageTest {
    private static final int MOST_LINES = 60;
    private static final int MOST_DEEP = 8;
    private static final int MOST_CLASSES = 12;
    private static final int MOST_FIELDS = 20;
    private static final int MOST_PARAMETERS = 7;
    private static final Set<String> LIBRARY = Set.of("java.lang.Math.max", "java.lang.Math.min", "java.lang.Math.abs",
            "java.lang.System.arraycopy", "java.util.Arrays.fill", "java.lang.String.length", "java.lang.String.charAt",
            "java.lang.Object.<init>");
    private static final Set<Set<String>> MAY_RECUR = Set.of(Set.of("Reader.anyOf", "Reader.allOf", "Reader.single"),
            Set.of("Chances.by", "Chances.greatest"));
    private static int wrong;

    private final Map<String, Set<String>> calls = new HashMap<>();
    private final Set<String> publicNames = new HashSet<>();
    private final Set<String> otherNames = new TreeSet<>();
    private int classes;

    private LanguageTest() {
    }

    public static void main(String[] args) throws Exception {
        JavaCompiler compiler = ToolProvider.getSystemJavaCompiler();
        StandardJavaFileManager files = compiler.getStandardFileManager(null, null, null);
        JavacTask task = (JavacTask) compiler.getTask(null, files, null, List.of("-proc:none"), null,
                files.getJavaFileObjects(Path.of("src/main/java/PointFirst.java")));
        CompilationUnitTree unit = task.parse().iterator().next();
        task.analyze();
        LanguageTest test = new LanguageTest();
        test.see(unit, Trees.instance(task));
        test.judge();
        if (wrong > 0) {
            System.exit(1);
        }
    }

    private static void fault(String text) {
        wrong++;
        System.out.println(text);
    }

    private void see(CompilationUnitTree unit, Trees trees) {
        if (unit.getPackageName() != null || unit.getTypeDecls().size() != 1) {
            fault("rule 1: one class without a package");
        }
        for (ImportTree i : unit.getImports()) {
            if (!i.toString().contains("import java.util.Arrays;")) {
                fault("rule 4: " + i);
            }
        }
        new Scanner(unit, trees).scan(unit, null);
    }

    private final class Scanner extends TreePathScanner<Void, Void> {
        private final CompilationUnitTree unit;
        private final Trees trees;
        private final SourcePositions positions;
        private String in = "";
        private String method = "";

        private Scanner(CompilationUnitTree unit, Trees trees) {
            this.unit = unit;
            this.trees = trees;
            positions = trees.getSourcePositions();
        }

        private long line(long at) {
            return unit.getLineMap().getLineNumber(at);
        }

        private void bad(Tree t, String rule) {
            fault("line " + line(positions.getStartPosition(unit, t)) + ", " + rule + ": " + t.getKind());
        }

        @Override
        public Void visitClass(ClassTree c, Void v) {
            String was = in;
            in = c.getSimpleName().toString();
            classes++;
            boolean outer = in.equals("PointFirst");
            Set<Modifier> is = c.getModifiers().getFlags();
            if (outer ? !is.containsAll(Set.of(Modifier.PUBLIC, Modifier.FINAL))
                    : !is.contains(Modifier.STATIC) || is.contains(Modifier.PUBLIC) || is.contains(Modifier.PROTECTED)) {
                bad(c, "rule 1 or 2");
            }
            int fields = 0;
            for (Tree t : c.getMembers()) {
                if (t instanceof VariableTree f) {
                    Set<Modifier> m = f.getModifiers().getFlags();
                    boolean constant = m.contains(Modifier.STATIC);
                    fields += constant ? 0 : 1;
                    if (constant && !m.contains(Modifier.FINAL)) {
                        bad(f, "rule 5");
                    }
                    if (outer && !m.contains(Modifier.PRIVATE) && !f.getName().contentEquals("NONE")) {
                        bad(f, "rule 1");
                    }
                }
                if (t.getKind() == Tree.Kind.BLOCK) {
                    bad(t, "rule 5");
                }
            }
            if (fields > MOST_FIELDS) {
                bad(c, "rule 11, fields");
            }
            super.visitClass(c, v);
            in = was;
            return null;
        }

        @Override
        public Void visitMethod(MethodTree m, Void v) {
            String was = method;
            method = in + "." + m.getName();
            calls.putIfAbsent(method, new HashSet<>());
            boolean made = m.getName().contentEquals("<init>");
            if (m.getModifiers().getFlags().contains(Modifier.PUBLIC)) {
                publicNames.add(m.getName().toString());
            } else if (!made) {
                otherNames.add(m.getName().toString());
                if (in.equals("PointFirst") && !m.getModifiers().getFlags().contains(Modifier.PRIVATE)) {
                    bad(m, "rule 1");
                }
            }
            if (m.getParameters().size() > MOST_PARAMETERS) {
                bad(m, "rule 11, parameters");
            }
            long first = positions.getStartPosition(unit, m);
            if (first >= 0 && line(positions.getEndPosition(unit, m)) - line(first) + 1 > MOST_LINES) {
                bad(m, "rule 11, lines");
            }
            super.visitMethod(m, v);
            method = was;
            return null;
        }

        @Override
        public Void visitMethodInvocation(MethodInvocationTree call, Void v) {
            Element e = trees.getElement(getCurrentPath());
            String owner = e.getEnclosingElement().toString();
            if (owner.startsWith("PointFirst")) {
                String to = owner.substring(owner.lastIndexOf('.') + 1) + "." + e.getSimpleName();
                calls.computeIfAbsent(method, k -> new HashSet<>()).add(to);
            } else if (!LIBRARY.contains(owner + "." + e.getSimpleName())) {
                bad(call, "rule 4, " + owner + "." + e.getSimpleName());
            }
            return super.visitMethodInvocation(call, v);
        }

        @Override
        public Void visitNewClass(NewClassTree n, Void v) {
            String to = n.getIdentifier() + ".<init>";
            calls.computeIfAbsent(method, k -> new HashSet<>()).add(to);
            if (n.getClassBody() != null) {
                bad(n, "rule 2");
            }
            return super.visitNewClass(n, v);
        }

        @Override
        public Void visitBinary(BinaryTree b, Void v) {
            if (b.getKind() == Tree.Kind.PLUS
                    && trees.getTypeMirror(getCurrentPath()).toString().endsWith("String")) {
                bad(b, "rule 10");
            }
            return super.visitBinary(b, v);
        }

        @Override
        public Void visitLiteral(LiteralTree l, Void v) {
            if (l.getValue() instanceof String s && s.chars().anyMatch(c -> c < 1 || c > 127)) {
                bad(l, "rule 4");
            }
            return super.visitLiteral(l, v);
        }

        @Override
        public Void visitThrow(ThrowTree t, Void v) {
            bad(t, "rule 6");
            return super.visitThrow(t, v);
        }

        @Override
        public Void visitTry(TryTree t, Void v) {
            bad(t, "rule 6");
            return super.visitTry(t, v);
        }

        @Override
        public Void visitAssert(AssertTree t, Void v) {
            bad(t, "rule 6");
            return super.visitAssert(t, v);
        }

        @Override
        public Void visitSynchronized(SynchronizedTree t, Void v) {
            bad(t, "rule 6");
            return super.visitSynchronized(t, v);
        }

        @Override
        public Void visitInstanceOf(InstanceOfTree t, Void v) {
            bad(t, "none is needed");
            return super.visitInstanceOf(t, v);
        }

        @Override
        public Void visitLambdaExpression(LambdaExpressionTree t, Void v) {
            bad(t, "rule 2");
            return super.visitLambdaExpression(t, v);
        }

        @Override
        public Void visitMemberReference(MemberReferenceTree t, Void v) {
            bad(t, "rule 2");
            return super.visitMemberReference(t, v);
        }

        @Override
        public Void visitEnhancedForLoop(EnhancedForLoopTree t, Void v) {
            bad(t, "rule 12, by index");
            return super.visitEnhancedForLoop(t, v);
        }
    }

    private void judge() {
        for (String name : otherNames) {
            if (publicNames.contains(name)) {
                fault("rule 1: a method of one's own has a public one's name: " + name);
            }
        }
        if (classes > MOST_CLASSES) {
            fault("rule 11: " + classes + " classes");
        }
        Map<String, Set<String>> reach = new HashMap<>();
        for (String m : calls.keySet()) {
            reach.put(m, reached(m));
        }
        for (String m : calls.keySet()) {
            Set<String> ring = new HashSet<>();
            for (String n : reach.get(m)) {
                if (reach.getOrDefault(n, Set.of()).contains(m)) {
                    ring.add(n);
                }
            }
            if (!ring.isEmpty() && !MAY_RECUR.contains(ring)) {
                fault("rule 8: " + ring);
            }
        }
        for (String m : calls.keySet()) {
            List<String> way = deepest(m, new ArrayList<>());
            if (m.startsWith("PointFirst.") && way.size() > MOST_DEEP) {
                fault("rule 11: " + way.size() + " deep: " + way);
            }
        }
    }

    private Set<String> reached(String m) {
        Set<String> seen = new HashSet<>();
        List<String> next = new ArrayList<>(calls.getOrDefault(m, Set.of()));
        while (!next.isEmpty()) {
            String n = next.remove(next.size() - 1);
            if (seen.add(n)) {
                next.addAll(calls.getOrDefault(n, Set.of()));
            }
        }
        return seen;
    }

    /** The longest way of calls that comes to none twice. */
    private List<String> deepest(String m, List<String> open) {
        List<String> most = new ArrayList<>();
        open.add(m);
        for (String n : calls.getOrDefault(m, Set.of())) {
            if (!open.contains(n)) {
                List<String> way = deepest(n, open);
                most = way.size() > most.size() ? way : most;
            }
        }
        open.remove(open.size() - 1);
        List<String> all = new ArrayList<>(List.of(m));
        all.addAll(most);
        return all;
    }
}
