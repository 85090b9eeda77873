import com.sun.source.tree.AssertTree;
import com.sun.source.tree.ClassTree;
import com.sun.source.tree.CompilationUnitTree;
import com.sun.source.tree.IdentifierTree;
import com.sun.source.tree.LambdaExpressionTree;
import com.sun.source.tree.MemberReferenceTree;
import com.sun.source.tree.MemberSelectTree;
import com.sun.source.tree.MethodInvocationTree;
import com.sun.source.tree.MethodTree;
import com.sun.source.tree.NewClassTree;
import com.sun.source.tree.SynchronizedTree;
import com.sun.source.tree.Tree;
import com.sun.source.tree.TryTree;
import com.sun.source.tree.VariableTree;
import com.sun.source.util.JavacTask;
import com.sun.source.util.TreePathScanner;
import com.sun.source.util.Trees;
import java.io.IOException;
import java.nio.file.Files;
import java.nio.file.Path;
import java.util.HashMap;
import java.util.HashSet;
import java.util.List;
import java.util.Map;
import java.util.Set;
import javax.lang.model.element.Element;
import javax.lang.model.element.ElementKind;
import javax.lang.model.element.Modifier;
import javax.tools.JavaCompiler;
import javax.tools.StandardJavaFileManager;
import javax.tools.ToolProvider;

/** Some of LANGUAGE.md that can be seen from the source alone: parts of rules 2, 4, 5, 6, 8 and 11. */
public final class FormTest {
    private static final Path SOURCE = Path.of("src/main/java/StoneRound.java");
    private static final int MOST_PARAMETERS = 7, MOST_LINES = 60, MOST_CLASSES = 12, MOST_FIELDS = 20, MOST_DEEP = 8;
    /** Of what rule 4 lists, what the class needs so far. */
    private static final Set<String> LIBRARY = Set.of("java.lang.Math.min", "java.lang.Math.max", "java.lang.Math.abs",
        "java.lang.Integer.bitCount", "java.lang.System.arraycopy");
    private static int wrong;

    private static void check(boolean good, String text) {
        if (!good) {
            wrong++;
            System.out.println(text);
        }
    }

    /** Looks at every part of the source, and keeps which method calls which. */
    private static final class Looker extends TreePathScanner<Void, Void> {
        private final Trees trees;
        private final CompilationUnitTree unit;
        private final Map<Element, Set<Element>> calls = new HashMap<>();
        private Element method;
        private int classes;

        Looker(Trees trees, CompilationUnitTree unit) {
            this.trees = trees;
            this.unit = unit;
        }

        private Element here() {
            return trees.getElement(getCurrentPath());
        }

        private long line(long position) {
            return unit.getLineMap().getLineNumber(position);
        }

        private void refuse(Tree tree, String rule) {
            check(false, rule + ", line " + line(trees.getSourcePositions().getStartPosition(unit, tree)));
        }

        private static String nameOf(Element e) {
            return e.getEnclosingElement() + "." + e.getSimpleName();
        }

        private static boolean isOwn(Element e) {
            return e.getEnclosingElement().toString().startsWith("StoneRound");
        }

        @Override public Void visitClass(ClassTree tree, Void none) {
            classes++;
            int fields = 0;
            for (Tree member : tree.getMembers()) {
                if (member instanceof VariableTree field) {
                    Set<Modifier> flags = field.getModifiers().getFlags();
                    boolean isStatic = flags.contains(Modifier.STATIC);
                    fields += isStatic ? 0 : 1;
                    check(!isStatic || flags.contains(Modifier.FINAL), "rule 5: static, not final: " + field.getName());
                }
                check(member.getKind() != Tree.Kind.BLOCK, "rule 5: a block of its own in " + tree.getSimpleName());
            }
            check(fields <= MOST_FIELDS, "rule 11: too many fields: " + tree.getSimpleName());
            return super.visitClass(tree, none);
        }

        @Override public Void visitMethod(MethodTree tree, Void none) {
            method = here();
            calls.putIfAbsent(method, new HashSet<>());
            check(tree.getParameters().size() <= MOST_PARAMETERS, "rule 11: too many parameters: " + tree.getName());
            long begin = line(trees.getSourcePositions().getStartPosition(unit, tree));
            long end = trees.getSourcePositions().getEndPosition(unit, tree);
            check(end < 0 || line(end) - begin < MOST_LINES, "rule 11: too long: " + tree.getName());
            return super.visitMethod(tree, none);
        }

        @Override public Void visitMethodInvocation(MethodInvocationTree tree, Void none) {
            Element called = here();
            boolean isSuper = called.getKind() == ElementKind.CONSTRUCTOR;
            if (method != null && !isSuper) {
                calls.get(method).add(called);
            }
            check(isSuper || isOwn(called) || LIBRARY.contains(nameOf(called)), "rule 4: " + nameOf(called));
            return super.visitMethodInvocation(tree, none);
        }

        @Override public Void visitNewClass(NewClassTree tree, Void none) {
            check(tree.getClassBody() == null, "rule 2: a class without a name: " + tree.getIdentifier());
            check(isOwn(here()), "rule 4: new " + tree.getIdentifier());
            return super.visitNewClass(tree, none);
        }

        @Override public Void visitMemberSelect(MemberSelectTree tree, Void none) {
            lookAtField();
            return super.visitMemberSelect(tree, none);
        }

        @Override public Void visitIdentifier(IdentifierTree tree, Void none) {
            lookAtField();
            return super.visitIdentifier(tree, none);
        }

        /** The library's fields are in no list of rule 4; length of an array is not the library's. */
        private void lookAtField() {
            Element e = here();
            boolean isField = e != null && e.getKind() == ElementKind.FIELD && !e.getSimpleName().contentEquals("length");
            check(!isField || isOwn(e), "rule 4: " + (isField ? nameOf(e) : ""));
        }

        @Override public Void visitLambdaExpression(LambdaExpressionTree tree, Void none) {
            refuse(tree, "rule 2: a lambda");
            return null;
        }

        @Override public Void visitMemberReference(MemberReferenceTree tree, Void none) {
            refuse(tree, "rule 2: a method reference");
            return null;
        }

        @Override public Void visitSynchronized(SynchronizedTree tree, Void none) {
            refuse(tree, "rule 6: synchronized");
            return null;
        }

        @Override public Void visitAssert(AssertTree tree, Void none) {
            refuse(tree, "rule 6: assert");
            return null;
        }

        @Override public Void visitTry(TryTree tree, Void none) {
            refuse(tree, "the document names no exception: try");
            return null;
        }

        /** How deep the calls of a method go, itself counted; the class has no recursion. */
        private int depth(Element of, Set<Element> open) {
            if (!open.add(of)) {
                check(false, "rule 8: recursion: " + nameOf(of));
                return 0;
            }
            int deepest = 0;
            for (Element called : calls.getOrDefault(of, Set.of())) {
                deepest = Math.max(deepest, depth(called, open));
            }
            open.remove(of);
            return deepest + 1;
        }
    }

    private static void look(JavaCompiler javac, StandardJavaFileManager files) throws IOException {
        JavacTask task = (JavacTask) javac.getTask(null, files, null, List.of("--release", "17", "-proc:none"), null,
            files.getJavaFileObjects(SOURCE));
        CompilationUnitTree unit = task.parse().iterator().next();
        task.analyze();
        check(unit.getPackageName() == null, "there is a package line");
        check(unit.getTypeDecls().size() == 1, "there is more than one class");
        check(unit.getImports().isEmpty(), "rule 4: " + unit.getImports());
        Looker looker = new Looker(Trees.instance(task), unit);
        looker.scan(unit, null);
        check(looker.classes <= MOST_CLASSES, "rule 11: too many classes: " + looker.classes);
        for (Element method : looker.calls.keySet()) {
            int deep = looker.depth(method, new HashSet<>());
            check(deep <= MOST_DEEP, "rule 11: calls go " + deep + " deep: " + Looker.nameOf(method));
        }
        check(looker.calls.size() > 33, "the source was not looked at");
    }

    public static void main(String[] args) throws IOException {
        String source = Files.readString(SOURCE);
        check(source.chars().allMatch(c -> c == '\n' || c >= 32 && c < 127), "rule 4: a sign that is not 1 to 127");
        JavaCompiler javac = ToolProvider.getSystemJavaCompiler();
        try (StandardJavaFileManager files = javac.getStandardFileManager(null, null, null)) {
            look(javac, files);
        }
        System.out.println(wrong == 0 ? "the form is as due" : wrong + " faults of the form");
        if (wrong != 0) {
            System.exit(1);
        }
    }
}
