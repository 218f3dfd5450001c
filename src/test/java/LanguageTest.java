import com.sun.source.tree.ArrayTypeTree;
import com.sun.source.tree.BinaryTree;
import com.sun.source.tree.CatchTree;
import com.sun.source.tree.ClassTree;
import com.sun.source.tree.CompilationUnitTree;
import com.sun.source.tree.LambdaExpressionTree;
import com.sun.source.tree.MemberReferenceTree;
import com.sun.source.tree.MethodInvocationTree;
import com.sun.source.tree.MethodTree;
import com.sun.source.tree.NewClassTree;
import com.sun.source.tree.ThrowTree;
import com.sun.source.tree.Tree;
import com.sun.source.tree.VariableTree;
import com.sun.source.util.JavacTask;
import com.sun.source.util.TreePathScanner;
import com.sun.source.util.Trees;
import java.io.IOException;
import java.nio.file.Path;
import java.util.ArrayList;
import java.util.HashMap;
import java.util.HashSet;
import java.util.List;
import java.util.Map;
import java.util.Set;
import java.util.TreeSet;
import javax.lang.model.element.Element;
import javax.lang.model.element.ElementKind;
import javax.lang.model.element.ExecutableElement;
import javax.lang.model.element.Modifier;
import javax.tools.JavaCompiler;
import javax.tools.StandardJavaFileManager;
import javax.tools.ToolProvider;

/** Measures Cascadery.java by the rules of LANGUAGE.md that can be read off its text. Run in the project's folder. */
public final class LanguageTest {
    private static final Set<String> LIBRARY = Set.of("java.lang.Object.<init>", "java.lang.Integer.bitCount");
    private static final Set<String> EXCEPTIONS = Set.of("IllegalStateException", "IllegalArgumentException",
            "IndexOutOfBoundsException");

    private final Check check = new Check("LanguageTest");
    private final Map<Element, Set<Element>> calls = new HashMap<>();
    private final Set<String> publicNames = new HashSet<>();
    private final List<ExecutableElement> methods = new ArrayList<>();
    private int classes;

    public static void main(String[] args) throws IOException {
        new LanguageTest().run(Path.of("src/main/java/Cascadery.java"));
    }

    private void run(Path file) throws IOException {
        JavaCompiler compiler = ToolProvider.getSystemJavaCompiler();
        try (StandardJavaFileManager files = compiler.getStandardFileManager(null, null, null)) {
            JavacTask task = (JavacTask) compiler.getTask(null, files, null, List.of("-proc:none"), null,
                    files.getJavaFileObjects(file));
            CompilationUnitTree unit = task.parse().iterator().next();
            task.analyze();
            check.due("imports", unit.getImports().size(), 0);
            new Reader(Trees.instance(task), unit).scan(unit, null);
        }
        check.due("at most 12 classes", Math.max(12, classes), 12);
        for (ExecutableElement m : methods) {
            boolean isHidden = m.getModifiers().contains(Modifier.PRIVATE) || isInside(m);
            check.due("a name of the face for " + m, isHidden && publicNames.contains(m.getSimpleName().toString()), false);
            check.due("calls one over the other from " + m, depth(m, new ArrayList<>()) <= 8, true);
        }
        check.end();
    }

    private static boolean isInside(ExecutableElement m) {
        return !m.getEnclosingElement().getSimpleName().contentEquals("Cascadery");
    }

    /** How many calls stand open at most, with this one; far too many for recursion. */
    private int depth(Element method, List<Element> open) {
        if (open.contains(method)) {
            System.out.println("recursion: " + open + " " + method);
            return 1000;
        }
        open.add(method);
        int most = 0;
        for (Element next : calls.getOrDefault(method, Set.of())) {
            most = Math.max(most, depth(next, open));
        }
        open.remove(open.size() - 1);
        return most + 1;
    }

    private final class Reader extends TreePathScanner<Void, Void> {
        private final Trees trees;
        private final CompilationUnitTree unit;
        private ExecutableElement method;

        Reader(Trees trees, CompilationUnitTree unit) {
            this.trees = trees;
            this.unit = unit;
        }

        private long line(long position) {
            return unit.getLineMap().getLineNumber(position);
        }

        private void refuse(Tree tree) {
            check.due("line " + line(trees.getSourcePositions().getStartPosition(unit, tree)) + ": " + tree.getKind(), 1, 0);
        }

        @Override
        public Void visitClass(ClassTree tree, Void none) {
            classes++;
            Element element = trees.getElement(getCurrentPath());
            boolean isOuter = classes == 1;
            Set<Modifier> wanted = isOuter ? Set.of(Modifier.PUBLIC, Modifier.FINAL)
                    : Set.of(Modifier.PRIVATE, Modifier.STATIC, Modifier.FINAL);
            check.due("modifiers of " + tree.getSimpleName(), element.getModifiers().equals(wanted), true);
            int fields = 0;
            for (Tree member : tree.getMembers()) {
                if (member instanceof VariableTree field) {
                    fields += isStatic(field) ? 0 : 1;
                    checkField(field, isOuter);
                }
            }
            check.due("fields of " + tree.getSimpleName(), Math.max(20, fields), 20);
            return super.visitClass(tree, none);
        }

        private boolean isStatic(VariableTree field) {
            return field.getModifiers().getFlags().contains(Modifier.STATIC);
        }

        private void checkField(VariableTree field, boolean isOuter) {
            Set<Modifier> flags = field.getModifiers().getFlags();
            boolean isFace = isOuter && flags.containsAll(Set.of(Modifier.PUBLIC, Modifier.STATIC, Modifier.FINAL));
            check.due("who sees " + field.getName(), !isOuter || isFace || flags.contains(Modifier.PRIVATE), true);
            if (isStatic(field)) {
                String type = field.getType().toString();
                check.due("static " + field.getName(), flags.contains(Modifier.FINAL) && Set.of("int", "int[]").contains(type), true);
            }
        }

        @Override
        public Void visitMethod(MethodTree tree, Void none) {
            ExecutableElement before = method;
            method = (ExecutableElement) trees.getElement(getCurrentPath());
            if (method.getModifiers().contains(Modifier.PUBLIC)) {
                publicNames.add(tree.getName().toString());
            }
            if (method.getKind() == ElementKind.METHOD) {
                methods.add(method);
            }
            long start = trees.getSourcePositions().getStartPosition(unit, tree);
            long end = trees.getSourcePositions().getEndPosition(unit, tree);
            check.due("lines of " + method, end < 0 || line(end) - line(start) < 60, true);
            check.due("parameters of " + method, Math.max(7, tree.getParameters().size()), 7);
            super.visitMethod(tree, none);
            method = before;
            return null;
        }

        private void noteCall(Tree tree) {
            Element called = trees.getElement(getCurrentPath());
            String owner = called.getEnclosingElement().toString();
            if (owner.startsWith("Cascadery")) {
                calls.computeIfAbsent(method, m -> new HashSet<>()).add(called);
            } else {
                String name = owner + "." + called.getSimpleName();
                boolean isException = EXCEPTIONS.contains(called.getEnclosingElement().getSimpleName().toString());
                check.due("library call " + name, LIBRARY.contains(name) || isException, true);
            }
        }

        @Override
        public Void visitMethodInvocation(MethodInvocationTree tree, Void none) {
            noteCall(tree);
            return super.visitMethodInvocation(tree, none);
        }

        @Override
        public Void visitNewClass(NewClassTree tree, Void none) {
            noteCall(tree);
            check.due("an anonymous class", tree.getClassBody() != null, false);
            return super.visitNewClass(tree, none);
        }

        @Override
        public Void visitThrow(ThrowTree tree, Void none) {
            boolean isNew = tree.getExpression() instanceof NewClassTree made
                    && EXCEPTIONS.contains(made.getIdentifier().toString());
            check.due("throw " + tree, isNew && method.getKind() == ElementKind.METHOD, true);
            return super.visitThrow(tree, none);
        }

        @Override
        public Void visitCatch(CatchTree tree, Void none) {
            refuse(tree);
            return super.visitCatch(tree, none);
        }

        @Override
        public Void visitLambdaExpression(LambdaExpressionTree tree, Void none) {
            refuse(tree);
            return super.visitLambdaExpression(tree, none);
        }

        @Override
        public Void visitMemberReference(MemberReferenceTree tree, Void none) {
            refuse(tree);
            return super.visitMemberReference(tree, none);
        }

        @Override
        public Void visitVariable(VariableTree tree, Void none) {
            String type = tree.getType() == null ? "var" : tree.getType().toString();
            Set<String> allowed = new TreeSet<>(Set.of("int", "long", "boolean", "int[]", "int[][]"));
            for (String own : new String[] {"Trees", "Matcher", "Cascade", "Animation", "Listener", "Element", "Style",
                "Compound", "Selector", "Sheet", "Rule"}) {
                allowed.add(own);
                allowed.add(own + "[]");
            }
            check.due("the type of " + tree.getName() + ", " + type, allowed.contains(type), true);
            return super.visitVariable(tree, none);
        }

        @Override
        public Void visitArrayType(ArrayTypeTree tree, Void none) {
            boolean isDeep = tree.getType() instanceof ArrayTypeTree && !tree.toString().equals("int[][]");
            check.due("the rows of " + tree, isDeep, false);
            return super.visitArrayType(tree, none);
        }

        @Override
        public Void visitBinary(BinaryTree tree, Void none) {
            String type = String.valueOf(trees.getTypeMirror(getCurrentPath()));
            check.due("the type of " + tree, Set.of("int", "long", "boolean").contains(type), true);
            return super.visitBinary(tree, none);
        }
    }
}
