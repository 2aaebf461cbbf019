import com.sun.source.tree.ClassTree;
import com.sun.source.tree.CompilationUnitTree;
import com.sun.source.tree.DoWhileLoopTree;
import com.sun.source.tree.ForLoopTree;
import com.sun.source.tree.MethodInvocationTree;
import com.sun.source.tree.MethodTree;
import com.sun.source.tree.NewArrayTree;
import com.sun.source.tree.NewClassTree;
import com.sun.source.tree.Tree;
import com.sun.source.tree.VariableTree;
import com.sun.source.tree.WhileLoopTree;
import com.sun.source.util.JavacTask;
import com.sun.source.util.TreePath;
import com.sun.source.util.TreePathScanner;
import com.sun.source.util.Trees;
import java.io.IOException;
import java.nio.charset.StandardCharsets;
import java.nio.file.Files;
import java.nio.file.Path;
import java.util.ArrayList;
import java.util.EnumSet;
import java.util.HashMap;
import java.util.HashSet;
import java.util.List;
import java.util.Map;
import java.util.Set;
import javax.lang.model.element.Element;
import javax.lang.model.element.ElementKind;
import javax.lang.model.element.ExecutableElement;
import javax.lang.model.element.Modifier;
import javax.lang.model.element.TypeElement;
import javax.lang.model.element.VariableElement;
import javax.lang.model.type.ArrayType;
import javax.lang.model.type.DeclaredType;
import javax.lang.model.type.TypeKind;
import javax.lang.model.type.TypeMirror;
import javax.tools.JavaCompiler;
import javax.tools.StandardJavaFileManager;
import javax.tools.ToolProvider;

/** The rules of LANGUAGE.md that can be read off the source; a failure bears the number of its rule. */
public final class LanguageTest {
    private static final Check CHECK = new Check();
    private static final Path SOURCE = Path.of("src/main/java/PartitionPress.java");
    private static final Set<Tree.Kind> RULED_OUT = EnumSet.of(Tree.Kind.THROW, Tree.Kind.TRY, Tree.Kind.CATCH, Tree.Kind.SYNCHRONIZED,
        Tree.Kind.ASSERT, Tree.Kind.LAMBDA_EXPRESSION, Tree.Kind.MEMBER_REFERENCE, Tree.Kind.IMPORT, Tree.Kind.PACKAGE,
        Tree.Kind.SWITCH_EXPRESSION, Tree.Kind.ANNOTATION);
    private static final Set<String> LIBRARY = Set.of("java.lang.Math.max", "java.lang.Math.min", "java.lang.Math.abs",
        "java.lang.Math.floorMod");
    private static final int MOST_LINES = 60;
    private static final int DEEPEST = 8;

    private LanguageTest() {
    }

    public static void main(String[] args) throws IOException {
        String text = Files.readString(SOURCE, StandardCharsets.UTF_8);
        for (int i = 0; i < text.length(); i++) {
            CHECK.holds("rule 3: characters 0 to 255", text.charAt(i) <= 255);
        }
        JavaCompiler compiler = ToolProvider.getSystemJavaCompiler();
        try (StandardJavaFileManager files = compiler.getStandardFileManager(null, null, StandardCharsets.UTF_8)) {
            JavacTask task = (JavacTask) compiler.getTask(null, files, null, List.of("-proc:none"), null, files.getJavaFileObjects(SOURCE));
            Reader reader = new Reader(task);
            for (CompilationUnitTree unit : task.parse()) {
                task.analyze();
                CHECK.due("rule 1: one class beside those inside it", unit.getTypeDecls().size(), 1);
                reader.unit = unit;
                reader.scan(unit, null);
            }
            CHECK.holds("rule 11: some twelve classes, not " + reader.classes, reader.classes <= 12);
            CHECK.holds("methods are found", reader.calls.size() > 100);
            for (ExecutableElement method : reader.calls.keySet()) {
                int depth = reader.depth(method, new ArrayList<>());
                CHECK.holds("rule 11: eight deep, not " + depth + ": " + method, depth <= DEEPEST);
            }
        }
        CHECK.end();
    }

    private static final class Reader extends TreePathScanner<Void, Void> {
        private final Trees trees;
        private final Map<ExecutableElement, Set<ExecutableElement>> calls = new HashMap<>();
        private final Map<ExecutableElement, Integer> depths = new HashMap<>();
        private CompilationUnitTree unit;
        private int classes;

        Reader(JavacTask task) {
            trees = Trees.instance(task);
        }

        @Override
        public Void scan(Tree tree, Void nothing) {
            if (tree != null) {
                CHECK.holds("ruled out: " + tree.getKind() + " " + tree, !RULED_OUT.contains(tree.getKind()));
            }
            return super.scan(tree, nothing);
        }

        @Override
        public Void visitClass(ClassTree tree, Void nothing) {
            Element element = trees.getElement(getCurrentPath());
            boolean outer = element.getEnclosingElement().getKind() == ElementKind.PACKAGE;
            classes++;
            CHECK.holds("rule 2: static, within the class: " + element, outer || element.getModifiers().contains(Modifier.STATIC)
                && element.getEnclosingElement().getKind() == ElementKind.CLASS);
            int fields = 0;
            for (Tree member : tree.getMembers()) {
                CHECK.holds("rule 5: no block of its own in " + element, member.getKind() != Tree.Kind.BLOCK);
                fields += member instanceof VariableTree field && !field.getModifiers().getFlags().contains(Modifier.STATIC) ? 1 : 0;
            }
            CHECK.holds("rule 11: some twenty fields: " + element, fields <= 20);
            return super.visitClass(tree, nothing);
        }

        @Override
        public Void visitVariable(VariableTree tree, Void nothing) {
            VariableElement element = (VariableElement) trees.getElement(getCurrentPath());
            CHECK.holds("rule 3: type of " + tree, isPlain(element.asType()));
            if (element.getModifiers().contains(Modifier.STATIC)) {
                CHECK.holds("rule 5: a constant: " + tree, element.getConstantValue() != null);
            }
            return super.visitVariable(tree, nothing);
        }

        /** Numbers, rows of them, own classes and rows of these. */
        private boolean isPlain(TypeMirror type) {
            if (type.getKind().isPrimitive()) {
                return type.getKind() != TypeKind.DOUBLE && type.getKind() != TypeKind.FLOAT;
            }
            if (type instanceof ArrayType array) {
                TypeMirror inside = array.getComponentType();
                return inside instanceof ArrayType rows ? rows.getComponentType().getKind().isPrimitive() : isPlain(inside);
            }
            return type instanceof DeclaredType declared && isOwn(declared.asElement());
        }

        private boolean isOwn(Element element) {
            Element at = element;
            while (at.getEnclosingElement() != null && at.getEnclosingElement().getKind() != ElementKind.PACKAGE) {
                at = at.getEnclosingElement();
            }
            return at instanceof TypeElement type && type.getQualifiedName().contentEquals("PartitionPress");
        }

        @Override
        public Void visitMethod(MethodTree tree, Void nothing) {
            ExecutableElement element = (ExecutableElement) trees.getElement(getCurrentPath());
            calls.computeIfAbsent(element, none -> new HashSet<>());
            CHECK.holds("rule 11: seven parameters: " + element, tree.getParameters().size() <= 7);
            CHECK.holds("rule 11: sixty lines: " + element, lines(tree) <= MOST_LINES);
            return super.visitMethod(tree, nothing);
        }

        private long lines(Tree tree) {
            long start = trees.getSourcePositions().getStartPosition(unit, tree);
            long end = trees.getSourcePositions().getEndPosition(unit, tree);
            return end < 0 ? 0 : unit.getLineMap().getLineNumber(end) - unit.getLineMap().getLineNumber(start) + 1;
        }

        /** The method or constructor that the present place stands in; null in the first value of a field. */
        private ExecutableElement within() {
            for (TreePath path = getCurrentPath(); path != null; path = path.getParentPath()) {
                if (path.getLeaf() instanceof MethodTree) {
                    return (ExecutableElement) trees.getElement(path);
                }
            }
            return null;
        }

        @Override
        public Void visitMethodInvocation(MethodInvocationTree tree, Void nothing) {
            ExecutableElement called = (ExecutableElement) trees.getElement(new TreePath(getCurrentPath(), tree.getMethodSelect()));
            ExecutableElement from = within();
            if (isOwn(called)) {
                if (from != null) {
                    calls.computeIfAbsent(from, none -> new HashSet<>()).add(called);
                }
            } else if (called.getKind() != ElementKind.CONSTRUCTOR) {
                String name = called.getEnclosingElement() + "." + called.getSimpleName();
                CHECK.holds("rule 4: the library: " + name, LIBRARY.contains(name));
            }
            return super.visitMethodInvocation(tree, nothing);
        }

        @Override
        public Void visitNewClass(NewClassTree tree, Void nothing) {
            CHECK.holds("rule 2: no class without a name: " + tree, tree.getClassBody() == null);
            isMadeAtFirst(tree);
            return super.visitNewClass(tree, nothing);
        }

        @Override
        public Void visitNewArray(NewArrayTree tree, Void nothing) {
            isMadeAtFirst(tree);
            return super.visitNewArray(tree, nothing);
        }

        /** All rows are made with the object: then no run of calls can fill the room. */
        private void isMadeAtFirst(Tree tree) {
            ExecutableElement from = within();
            CHECK.holds("rule 12: made in a constructor: " + tree, from == null || from.getKind() == ElementKind.CONSTRUCTOR);
        }

        @Override
        public Void visitForLoop(ForLoopTree tree, Void nothing) {
            CHECK.holds("rule 9: an end of the loop: " + tree, tree.getCondition() != null && !tree.getUpdate().isEmpty());
            return super.visitForLoop(tree, nothing);
        }

        @Override
        public Void visitWhileLoop(WhileLoopTree tree, Void nothing) {
            CHECK.holds("rule 9: a bound beside the sought: " + tree, tree.getCondition().toString().contains("&&"));
            return super.visitWhileLoop(tree, nothing);
        }

        @Override
        public Void visitDoWhileLoop(DoWhileLoopTree tree, Void nothing) {
            CHECK.holds("rule 9: a bound beside the sought: " + tree, tree.getCondition().toString().contains("&&"));
            return super.visitDoWhileLoop(tree, nothing);
        }

        /** How many calls stand open at most, this one among them; no method calls itself, over others either. */
        int depth(ExecutableElement method, List<ExecutableElement> open) {
            CHECK.holds("rule 8: no recursion: " + open + " " + method, !open.contains(method));
            if (open.contains(method) || depths.containsKey(method)) {
                return depths.getOrDefault(method, DEEPEST + 1);
            }
            open.add(method);
            int deepest = 0;
            for (ExecutableElement called : calls.getOrDefault(method, Set.of())) {
                deepest = Math.max(deepest, depth(called, open));
            }
            open.remove(method);
            depths.put(method, deepest + 1);
            return deepest + 1;
        }
    }
}
