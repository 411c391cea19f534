import com.sun.source.tree.AssertTree;
import com.sun.source.tree.BinaryTree;
import com.sun.source.tree.CatchTree;
import com.sun.source.tree.ClassTree;
import com.sun.source.tree.CompilationUnitTree;
import com.sun.source.tree.LambdaExpressionTree;
import com.sun.source.tree.MemberReferenceTree;
import com.sun.source.tree.MethodInvocationTree;
import com.sun.source.tree.MethodTree;
import com.sun.source.tree.NewClassTree;
import com.sun.source.tree.SynchronizedTree;
import com.sun.source.tree.ThrowTree;
import com.sun.source.tree.Tree;
import com.sun.source.tree.TryTree;
import com.sun.source.tree.VariableTree;
import com.sun.source.util.JavacTask;
import com.sun.source.util.TreePath;
import com.sun.source.util.TreePathScanner;
import com.sun.source.util.Trees;
import java.nio.file.Files;
import java.nio.file.Path;
import java.util.ArrayDeque;
import java.util.ArrayList;
import java.util.Deque;
import java.util.HashMap;
import java.util.HashSet;
import java.util.List;
import java.util.Map;
import java.util.Set;
import java.util.TreeMap;
import java.util.TreeSet;
import javax.lang.model.element.Element;
import javax.lang.model.element.ElementKind;
import javax.lang.model.element.ExecutableElement;
import javax.lang.model.element.Modifier;
import javax.tools.JavaCompiler;
import javax.tools.StandardJavaFileManager;
import javax.tools.ToolProvider;

/** Looks at the program's own text by the rules of LANGUAGE.md, as far as a program can tell. */
public final class LanguageTest {
    private static final Path SOURCE = Path.of("src/main/java/TemplateQuarry.java");
    private static final Set<String> FACE = Set.of("type", "wipe", "fault", "template", "message", "number", "text", "list",
            "add", "addText", "clear", "budget", "render", "spent", "hits", "kept", "out", "outAnew", "source", "context",
            "alike", "alikeAtEnd", "mayEnd", "shape", "check");
    private static final Set<String> LIBRARY = Set.of("java.lang.System.arraycopy", "java.lang.Math.min", "java.lang.Math.max",
            "Array.clone");
    private static final Set<String> THROWN = Set.of("IllegalStateException", "IllegalArgumentException", "IndexOutOfBoundsException",
            "ArithmeticException", "UnsupportedOperationException", "NoSuchElementException", "RuntimeException");

    private static final List<String> wrong = new ArrayList<>();

    public static void main(String[] args) throws Exception {
        String text = Files.readString(SOURCE);
        for (int i = 0; i < text.length(); i++) {
            if (text.charAt(i) > 126) wrong.add("rule 4: a sign beyond 126 at " + i);
        }
        JavaCompiler compiler = ToolProvider.getSystemJavaCompiler();
        try (StandardJavaFileManager files = compiler.getStandardFileManager(null, null, null)) {
            JavacTask task = (JavacTask) compiler.getTask(null, files, null, List.of("-proc:none"), null,
                    files.getJavaFileObjects(SOURCE));
            CompilationUnitTree unit = task.parse().iterator().next();
            task.analyze();
            if (unit.getPackageName() != null) wrong.add("a package line");
            if (!unit.getImports().isEmpty()) wrong.add("rule 4: an import");
            if (unit.getTypeDecls().size() != 1) wrong.add("rule 1: more than one class in the file");
            Look look = new Look(unit, Trees.instance(task));
            look.scan(unit, null);
            look.end();
        }
        for (String w : wrong) System.out.println(w);
        System.out.println(wrong.isEmpty() ? "the program keeps to the rules that are looked at" : wrong.size() + " places break rules");
        if (!wrong.isEmpty()) System.exit(1);
    }

    private static final class Look extends TreePathScanner<Void, Void> {
        private final CompilationUnitTree unit;
        private final Trees trees;
        private final Map<String, Set<String>> calls = new TreeMap<>();
        private final Set<String> open = new HashSet<>();
        private final Deque<String> within = new ArrayDeque<>();
        private int classes;

        Look(CompilationUnitTree unit, Trees trees) {
            this.unit = unit;
            this.trees = trees;
        }

        private void wrong(Tree tree, String what) {
            long line = unit.getLineMap().getLineNumber(trees.getSourcePositions().getStartPosition(unit, tree));
            wrong.add("line " + line + ": " + what);
        }

        private Element element() {
            return trees.getElement(getCurrentPath());
        }

        private boolean isOuter(Element e) {
            return e.getSimpleName().contentEquals("TemplateQuarry");
        }

        @Override
        public Void visitClass(ClassTree tree, Void v) {
            Element e = element();
            int fields = 0;
            for (Element m : e.getEnclosedElements()) {
                boolean isField = m.getKind() == ElementKind.FIELD;
                if (isField && !m.getModifiers().contains(Modifier.STATIC)) fields++;
                if (isField && m.getModifiers().contains(Modifier.STATIC) && !m.getModifiers().contains(Modifier.FINAL)) {
                    wrong(tree, "rule 5: " + m + " is not final");
                }
                boolean isClass = m.getKind().isClass() || m.getKind().isInterface();
                if (isClass && !m.getModifiers().contains(Modifier.STATIC)) wrong(tree, "rule 1: " + m + " is not static");
                if (isOuter(e) && !isClass && !m.getModifiers().contains(Modifier.PRIVATE)) {
                    boolean due = m.getModifiers().contains(Modifier.PUBLIC)
                            && (m.getKind() == ElementKind.CONSTRUCTOR || isField || FACE.contains(m.getSimpleName().toString()));
                    if (!due) wrong(tree, "rule 1: " + m + " is not of the face");
                }
            }
            if (isOuter(e)) {
                if (!e.getModifiers().containsAll(Set.of(Modifier.PUBLIC, Modifier.FINAL))) wrong(tree, "rule 1: not public and final");
            } else {
                classes++;
            }
            if (fields > 23) wrong(tree, "rule 11: " + e + " has " + fields + " fields");
            return super.visitClass(tree, v);
        }

        @Override
        public Void visitMethod(MethodTree tree, Void v) {
            Element e = element();
            String name = e.getEnclosingElement().getSimpleName() + "." + e.getSimpleName();
            if (e.getKind() == ElementKind.METHOD && FACE.contains(e.getSimpleName().toString())
                    && !e.getModifiers().contains(Modifier.PUBLIC)) {
                wrong(tree, "rule 1: " + name + " bears the name of a public method");
            }
            long from = unit.getLineMap().getLineNumber(trees.getSourcePositions().getStartPosition(unit, tree));
            long to = unit.getLineMap().getLineNumber(trees.getSourcePositions().getEndPosition(unit, tree));
            if (to - from + 1 > 60) wrong(tree, "rule 11: " + name + " has " + (to - from + 1) + " lines");
            if (tree.getParameters().size() > 7) wrong(tree, "rule 11: " + name + " has too many parameters");
            if (!e.getModifiers().contains(Modifier.PRIVATE)) open.add(name);
            within.push(name);
            calls.computeIfAbsent(name, k -> new TreeSet<>());
            super.visitMethod(tree, v);
            within.pop();
            return null;
        }

        @Override
        public Void visitMethodInvocation(MethodInvocationTree tree, Void v) {
            if (element() instanceof ExecutableElement called) note(tree, called);
            return super.visitMethodInvocation(tree, v);
        }

        @Override
        public Void visitNewClass(NewClassTree tree, Void v) {
            if (element() instanceof ExecutableElement called && !(getCurrentPath().getParentPath().getLeaf() instanceof ThrowTree)) {
                note(tree, called);
            }
            return super.visitNewClass(tree, v);
        }

        private void note(Tree tree, ExecutableElement called) {
            Element owner = called.getEnclosingElement();
            String name = owner.getSimpleName() + "." + called.getSimpleName();
            boolean isOwn = owner.toString().startsWith("TemplateQuarry");
            if (isOwn && !within.isEmpty()) calls.get(within.peek()).add(name);
            if (!isOwn && called.getSimpleName().contentEquals("<init>") && owner.toString().equals("java.lang.Object")) return;
            if (!isOwn && !LIBRARY.contains(owner + "." + called.getSimpleName())) wrong(tree, "rule 4: " + owner + "." + called);
        }

        @Override
        public Void visitThrow(ThrowTree tree, Void v) {
            boolean isDue = tree.getExpression() instanceof NewClassTree made && THROWN.contains(made.getIdentifier().toString());
            if (!isDue) wrong(tree, "rule 6: this throw");
            for (TreePath p = getCurrentPath(); p != null; p = p.getParentPath()) {
                if (p.getLeaf() instanceof MethodTree m && m.getName().contentEquals("<init>")) wrong(tree, "rule 6: a throw in a constructor");
            }
            return super.visitThrow(tree, v);
        }

        @Override
        public Void visitBinary(BinaryTree tree, Void v) {
            if (trees.getTypeMirror(getCurrentPath()).toString().equals("java.lang.String")) wrong(tree, "rule 10: texts joined by +");
            return super.visitBinary(tree, v);
        }

        @Override
        public Void visitVariable(VariableTree tree, Void v) {
            String type = trees.getTypeMirror(getCurrentPath()).toString();
            if (type.startsWith("java.")) wrong(tree, "rule 3: " + type);
            return super.visitVariable(tree, v);
        }

        @Override
        public Void visitLambdaExpression(LambdaExpressionTree tree, Void v) {
            wrong(tree, "rule 2: a lambda");
            return super.visitLambdaExpression(tree, v);
        }

        @Override
        public Void visitMemberReference(MemberReferenceTree tree, Void v) {
            wrong(tree, "rule 2: a method reference");
            return super.visitMemberReference(tree, v);
        }

        @Override
        public Void visitTry(TryTree tree, Void v) {
            wrong(tree, "rule 6: nothing here needs a try");
            return super.visitTry(tree, v);
        }

        @Override
        public Void visitCatch(CatchTree tree, Void v) {
            wrong(tree, "rule 6: nothing here needs a catch");
            return super.visitCatch(tree, v);
        }

        @Override
        public Void visitAssert(AssertTree tree, Void v) {
            wrong(tree, "rule 6: an assert");
            return super.visitAssert(tree, v);
        }

        @Override
        public Void visitSynchronized(SynchronizedTree tree, Void v) {
            wrong(tree, "rule 6: synchronized");
            return super.visitSynchronized(tree, v);
        }

        void end() {
            if (classes > 12) wrong.add("rule 11: " + classes + " classes inside");
            Map<String, Set<String>> reached = new HashMap<>();
            for (String m : calls.keySet()) reached.put(m, reachedFrom(m));
            for (String m : calls.keySet()) {
                if (reached.get(m).contains(m) && open.contains(m)) wrong.add("rule 8: " + m + " is recursive and not private");
            }
            Map<String, List<String>> longest = new HashMap<>();
            for (String m : calls.keySet()) {
                List<String> way = longest(m, reached, longest);
                if (way.size() > 8) wrong.add("rule 11: " + way.size() + " calls deep: " + way);
            }
        }

        private Set<String> reachedFrom(String method) {
            Set<String> all = new HashSet<>();
            Deque<String> open = new ArrayDeque<>(calls.get(method));
            while (!open.isEmpty()) {
                String m = open.pop();
                if (all.add(m) && calls.containsKey(m)) open.addAll(calls.get(m));
            }
            return all;
        }

        /** Methods that call one another count once together. */
        private List<String> longest(String from, Map<String, Set<String>> reached, Map<String, List<String>> known) {
            List<String> got = known.get(from);
            if (got != null) return got;
            List<String> best = List.of();
            for (String together : calls.keySet()) {
                boolean same = together.equals(from) || reached.get(from).contains(together) && reached.get(together).contains(from);
                if (!same) continue;
                for (String next : calls.get(together)) {
                    if (next.equals(from) || !calls.containsKey(next) || reached.get(next).contains(from)) continue;
                    List<String> way = longest(next, reached, known);
                    if (way.size() > best.size()) best = way;
                }
            }
            List<String> way = new ArrayList<>();
            way.add(from);
            way.addAll(best);
            known.put(from, way);
            return way;
        }
    }
}
