import com.sun.source.tree.BinaryTree;
import com.sun.source.tree.ClassTree;
import com.sun.source.tree.CompilationUnitTree;
import com.sun.source.tree.ExpressionTree;
import com.sun.source.tree.ForLoopTree;
import com.sun.source.tree.MethodInvocationTree;
import com.sun.source.tree.MethodTree;
import com.sun.source.tree.NewArrayTree;
import com.sun.source.tree.NewClassTree;
import com.sun.source.tree.Tree;
import com.sun.source.tree.TypeCastTree;
import com.sun.source.tree.VariableTree;
import com.sun.source.tree.WhileLoopTree;
import com.sun.source.util.JavacTask;
import com.sun.source.util.TreePath;
import com.sun.source.util.TreePathScanner;
import com.sun.source.util.Trees;
import java.nio.file.Files;
import java.nio.file.Path;
import java.util.ArrayList;
import java.util.HashMap;
import java.util.HashSet;
import java.util.List;
import java.util.Map;
import java.util.Set;
import java.util.TreeSet;
import javax.lang.model.element.Element;
import javax.lang.model.element.Modifier;
import javax.lang.model.type.ArrayType;
import javax.lang.model.type.DeclaredType;
import javax.lang.model.type.TypeKind;
import javax.lang.model.type.TypeMirror;
import javax.tools.JavaCompiler;
import javax.tools.StandardJavaFileManager;
import javax.tools.ToolProvider;

/**
 * The rules of LANGUAGE.md, read from the source by the compiler's own tree; it is run in the project's folder.
 * Where the program needs less than a rule leaves (no texts, no lists, no casts), it is held to what it needs.
 */
public final class RulesTest {
    private static final Path SOURCE = Path.of("src", "main", "java", "ChalkRings.java");
    private static final Set<String> LIBRARY = Set.of("Math.max", "Math.min", "Integer.bitCount");
    private static final Map<Tree.Kind, Integer> LEFT_OUT = Map.ofEntries(
        Map.entry(Tree.Kind.LAMBDA_EXPRESSION, 2), Map.entry(Tree.Kind.MEMBER_REFERENCE, 2),
        Map.entry(Tree.Kind.STRING_LITERAL, 3), Map.entry(Tree.Kind.IMPORT, 4), Map.entry(Tree.Kind.ANNOTATION, 4),
        Map.entry(Tree.Kind.THROW, 6), Map.entry(Tree.Kind.TRY, 6), Map.entry(Tree.Kind.SYNCHRONIZED, 6),
        Map.entry(Tree.Kind.ASSERT, 6), Map.entry(Tree.Kind.INSTANCE_OF, 6), Map.entry(Tree.Kind.DO_WHILE_LOOP, 9));
    private static final int MOST_CLASSES = 12;
    private static final int MOST_FIELDS = 20;
    private static final int MOST_PARAMETERS = 7;
    private static final int LONGEST_METHOD = 60;
    private static final int DEEPEST_CALL = 8;

    private final Trees trees;
    private final CompilationUnitTree unit;
    private final Map<Element, Set<Element>> calls = new HashMap<>();
    private final Set<String> library = new TreeSet<>();
    private final List<String> faults = new ArrayList<>();
    private int classes = 0;
    private int methods = 0;

    private RulesTest(Trees trees, CompilationUnitTree unit) {
        this.trees = trees;
        this.unit = unit;
    }

    public static void main(String[] args) throws Exception {
        JavaCompiler compiler = ToolProvider.getSystemJavaCompiler();
        try (StandardJavaFileManager files = compiler.getStandardFileManager(null, null, null)) {
            JavacTask task = (JavacTask) compiler.getTask(null, files, null, List.of("--release", "17"), null,
                files.getJavaFileObjects(SOURCE));
            CompilationUnitTree unit = task.parse().iterator().next();
            task.analyze();
            new RulesTest(Trees.instance(task), unit).check();
        }
        Script.check("signs of the source beyond 126", Files.readString(SOURCE).chars()
            .filter(sign -> sign > 126 || sign < 32 && sign != '\n').count(), 0);
        Script.finish();
    }

    private void check() {
        new Words().scan(unit, null);
        faults.forEach(fault -> Script.check(fault, 1, 0));
        Script.check("rule 1: types of the file", unit.getTypeDecls().size(), 1);
        Script.check("rule 1: a package line", unit.getPackageName() == null ? 0 : 1, 0);
        Script.check("rule 4: calls of the library beside " + LIBRARY + " are in " + library,
            LIBRARY.containsAll(library) ? 0 : 1, 0);
        Script.check("rule 11: " + classes + " classes", classes > 1 && classes <= MOST_CLASSES ? 0 : 1, 0);
        Script.check("rule 8, 11: calls that stand open at once are " + deepest(),
            deepest() > 3 && deepest() <= DEEPEST_CALL ? 0 : 1, 0);
        Script.check("methods are found", methods > 50 ? 1 : 0, 1);
    }

    private int deepest() {
        int deepest = 0;
        for (Element method : calls.keySet()) {
            deepest = Math.max(deepest, depth(method, new HashSet<>()));
        }
        return deepest;
    }

    /** The calls that stand open at once from this method on, itself included; a recursion is endlessly deep. */
    private int depth(Element method, Set<Element> open) {
        if (!open.add(method)) {
            return 1000;
        }
        int below = 0;
        for (Element called : calls.getOrDefault(method, Set.of())) {
            below = Math.max(below, depth(called, open));
        }
        open.remove(method);
        return 1 + below;
    }

    private final class Words extends TreePathScanner<Void, Void> {
        private void fault(int rule, String what, Tree tree) {
            long line = unit.getLineMap().getLineNumber(trees.getSourcePositions().getStartPosition(unit, tree));
            faults.add("rule " + rule + ": " + what + " in line " + line);
        }

        private boolean isOwn(Element element) {
            Element outer = element;
            while (outer.getEnclosingElement() != null && outer.getEnclosingElement().getKind().isClass()) {
                outer = outer.getEnclosingElement();
            }
            return outer.getSimpleName().contentEquals("ChalkRings");
        }

        private Element enclosingMethod() {
            for (TreePath path = getCurrentPath(); path != null; path = path.getParentPath()) {
                if (path.getLeaf() instanceof MethodTree) {
                    return trees.getElement(path);
                }
            }
            return null;
        }

        @Override
        public Void scan(Tree tree, Void none) {
            if (tree != null && LEFT_OUT.containsKey(tree.getKind())) {
                fault(LEFT_OUT.get(tree.getKind()), "" + tree.getKind(), tree);
            }
            return super.scan(tree, none);
        }

        @Override
        public Void visitClass(ClassTree tree, Void none) {
            classes++;
            Set<Modifier> words = tree.getModifiers().getFlags();
            boolean top = getCurrentPath().getParentPath().getLeaf() instanceof CompilationUnitTree;
            if (!words.equals(top ? Set.of(Modifier.PUBLIC, Modifier.FINAL)
                : Set.of(Modifier.PRIVATE, Modifier.STATIC, Modifier.FINAL))) {
                fault(2, "a class with the words " + words, tree);
            }
            int fields = 0;
            for (Tree member : tree.getMembers()) {
                if (member instanceof VariableTree field) {
                    fields += field.getModifiers().getFlags().contains(Modifier.STATIC) ? 0 : 1;
                } else if (!(member instanceof MethodTree) && !(member instanceof ClassTree)) {
                    fault(5, "an initialiser block", member);
                }
            }
            if (fields > MOST_FIELDS) {
                fault(11, fields + " fields", tree);
            }
            return super.visitClass(tree, none);
        }

        @Override
        public Void visitVariable(VariableTree tree, Void none) {
            Set<Modifier> words = tree.getModifiers().getFlags();
            TypeMirror type = trees.getTypeMirror(getCurrentPath());
            TypeMirror inner = type;
            int dimensions = 0;
            while (inner.getKind() == TypeKind.ARRAY) {
                inner = ((ArrayType) inner).getComponentType();
                dimensions++;
            }
            boolean own = inner.getKind() == TypeKind.DECLARED
                && isOwn(((DeclaredType) inner).asElement());
            if (!inner.getKind().isPrimitive() && !own || dimensions > 1) {
                fault(3, "the type " + type, tree);
            }
            if (words.contains(Modifier.STATIC) && (!words.contains(Modifier.FINAL) || own
                || dimensions == 1 && !(tree.getInitializer() instanceof NewArrayTree))) {
                fault(5, "the static field " + tree.getName(), tree);
            }
            return super.visitVariable(tree, none);
        }

        @Override
        public Void visitMethod(MethodTree tree, Void none) {
            methods++;
            calls.putIfAbsent(trees.getElement(getCurrentPath()), new HashSet<>());
            long first = trees.getSourcePositions().getStartPosition(unit, tree);
            long last = trees.getSourcePositions().getEndPosition(unit, tree);
            if (last > first
                && unit.getLineMap().getLineNumber(last) - unit.getLineMap().getLineNumber(first) >= LONGEST_METHOD) {
                fault(11, "the long method " + tree.getName(), tree);
            }
            if (tree.getParameters().size() > MOST_PARAMETERS) {
                fault(11, "the parameters of " + tree.getName(), tree);
            }
            if (!tree.getThrows().isEmpty()) {
                fault(6, "throws", tree);
            }
            return super.visitMethod(tree, none);
        }

        @Override
        public Void visitMethodInvocation(MethodInvocationTree tree, Void none) {
            Element called = trees.getElement(getCurrentPath());
            Element from = enclosingMethod();
            if (called == null || from == null) {
                fault(5, "a call outside of the methods", tree);
            } else if (isOwn(called)) {
                calls.computeIfAbsent(from, unused -> new HashSet<>()).add(called);
            } else if (!tree.getMethodSelect().toString().equals("super")) {
                library.add(called.getEnclosingElement().getSimpleName() + "." + called.getSimpleName());
            }
            return super.visitMethodInvocation(tree, none);
        }

        @Override
        public Void visitNewClass(NewClassTree tree, Void none) {
            if (tree.getClassBody() != null) {
                fault(2, "a class without a name", tree);
            }
            checkMaking(tree);
            return super.visitNewClass(tree, none);
        }

        @Override
        public Void visitNewArray(NewArrayTree tree, Void none) {
            if (enclosingMethod() != null || tree.getInitializers() == null) {
                checkMaking(tree);
            }
            return super.visitNewArray(tree, none);
        }

        /** Rows are made in constructors and used again. */
        private void checkMaking(ExpressionTree tree) {
            Element method = enclosingMethod();
            if (method == null || !method.getSimpleName().contentEquals("<init>")) {
                fault(12, "an object that is not made by a constructor", tree);
            }
        }

        @Override
        public Void visitWhileLoop(WhileLoopTree tree, Void none) {
            if (!tree.getCondition().toString().matches("\\(\\w+ < [A-Z_]+ && .*")) {
                fault(9, "a loop without a counter against a bound", tree);
            }
            return super.visitWhileLoop(tree, none);
        }

        @Override
        public Void visitForLoop(ForLoopTree tree, Void none) {
            boolean bounded = tree.getCondition() instanceof BinaryTree && tree.getUpdate().size() == 1
                && tree.getCondition().toString().matches("\\w+ <=? [\\w.]+( && .*)?")
                && tree.getUpdate().get(0).toString().matches("\\w+\\+\\+;?");
            if (!bounded) {
                fault(9, "a loop without a counter against a bound", tree);
            }
            return super.visitForLoop(tree, none);
        }

        @Override
        public Void visitTypeCast(TypeCastTree tree, Void none) {
            if (!tree.getType().toString().equals("char")) {
                fault(6, "a cast", tree);
            }
            return super.visitTypeCast(tree, none);
        }
    }
}
