import com.sun.source.tree.ClassTree;
import com.sun.source.tree.CompilationUnitTree;
import com.sun.source.tree.ForLoopTree;
import com.sun.source.tree.MemberSelectTree;
import com.sun.source.tree.MethodInvocationTree;
import com.sun.source.tree.MethodTree;
import com.sun.source.tree.NewArrayTree;
import com.sun.source.tree.NewClassTree;
import com.sun.source.tree.Tree;
import com.sun.source.tree.TypeCastTree;
import com.sun.source.tree.VariableTree;
import com.sun.source.util.JavacTask;
import com.sun.source.util.TreePath;
import com.sun.source.util.TreePathScanner;
import com.sun.source.util.Trees;
import java.io.IOException;
import java.nio.file.Files;
import java.nio.file.Path;
import java.util.ArrayList;
import java.util.EnumSet;
import java.util.HashMap;
import java.util.LinkedHashMap;
import java.util.LinkedHashSet;
import java.util.List;
import java.util.Map;
import java.util.Set;
import javax.lang.model.element.Element;
import javax.lang.model.element.ElementKind;
import javax.lang.model.element.ExecutableElement;
import javax.lang.model.element.Modifier;
import javax.lang.model.element.TypeElement;
import javax.lang.model.element.VariableElement;
import javax.tools.JavaCompiler;
import javax.tools.StandardJavaFileManager;
import javax.tools.ToolProvider;

/** The rules of LANGUAGE.md, by number, looked up in the program as the compiler has parsed and named it. */
public final class LanguageTest {
    private static final Due DUE = new Due("LanguageTest");
    private static final Path SOURCE = Path.of("src/main/java/LampWays.java");
    private static final int MOST_PARAMETERS = 7, MOST_LINES = 60, MOST_CLASSES = 12, MOST_FIELDS = 20, MOST_DEEP = 8;
    private static final Set<String> LIBRARY = Set.of("java.lang.System.arraycopy", "java.lang.Math.abs",
            "java.lang.Math.max", "java.lang.Math.min", "java.lang.Integer.bitCount");
    private static final Set<String> PLAIN = Set.of("int", "long", "boolean", "int[]", "boolean[]");
    private static final Set<String> RECURSIVE = Set.of("settle", "extend");
    private static final Set<Tree.Kind> RULED_OUT = EnumSet.of(Tree.Kind.LAMBDA_EXPRESSION, Tree.Kind.MEMBER_REFERENCE,
            Tree.Kind.THROW, Tree.Kind.TRY, Tree.Kind.CATCH, Tree.Kind.SYNCHRONIZED, Tree.Kind.ASSERT,
            Tree.Kind.WHILE_LOOP, Tree.Kind.DO_WHILE_LOOP, Tree.Kind.SWITCH_EXPRESSION, Tree.Kind.ANNOTATION,
            Tree.Kind.STRING_LITERAL, Tree.Kind.DOUBLE_LITERAL, Tree.Kind.FLOAT_LITERAL, Tree.Kind.BINDING_PATTERN,
            Tree.Kind.IMPORT, Tree.Kind.PACKAGE, Tree.Kind.PARAMETERIZED_TYPE);

    private final CompilationUnitTree unit;
    private final JavacTask task;
    private final Trees trees;
    private final Map<ExecutableElement, Set<ExecutableElement>> calls = new LinkedHashMap<>();
    private final List<TypeElement> classes = new ArrayList<>();

    private LanguageTest(JavacTask task) throws IOException {
        this.task = task;
        trees = Trees.instance(task);
        unit = task.parse().iterator().next();
        task.analyze();
    }

    private boolean isOwn(Element element) {
        return element != null && classes.contains(element.getEnclosingElement());
    }

    /** First all members are known, then what they do is looked at. */
    private void look() {
        DUE.holds("no package, no imports", unit.getPackage() == null && unit.getImports().isEmpty());
        new Members().scan(new TreePath(unit), null);
        new Bodies().scan(new TreePath(unit), null);
        DUE.holds("11 some twelve classes: " + classes.size(), classes.size() <= MOST_CLASSES);
        DUE.holds("classes and methods were seen", classes.size() > 5 && calls.size() > 100);
        namesOfTheFace();
        overridden();
        depths();
    }

    private final class Members extends TreePathScanner<Void, Void> {
        @Override
        public Void visitClass(ClassTree tree, Void none) {
            TypeElement type = (TypeElement) trees.getElement(getCurrentPath());
            classes.add(type);
            boolean outer = getCurrentPath().getParentPath().getLeaf() == unit;
            Element around = type.getEnclosingElement();
            DUE.holds("2 named and inside the class: " + tree.getSimpleName(), tree.getSimpleName().length() > 0
                    && (outer || around.getKind() == ElementKind.CLASS && type.getModifiers().contains(Modifier.STATIC)));
            DUE.holds("1 not to be seen: " + tree.getSimpleName(), outer || !type.getModifiers().contains(
                    Modifier.PUBLIC) && !type.getModifiers().contains(Modifier.PROTECTED));
            fields(type);
            return super.visitClass(tree, none);
        }

        private void fields(TypeElement type) {
            int own = 0;
            for (Element member : type.getEnclosedElements()) {
                if (member instanceof VariableElement field) {
                    boolean constant = field.getModifiers().contains(Modifier.STATIC);
                    own += constant ? 0 : 1;
                    DUE.holds("5 a static field is a constant: " + field, !constant
                            || field.getModifiers().contains(Modifier.FINAL) && field.getConstantValue() != null);
                }
                DUE.holds("5 no static block in " + type, member.getKind() != ElementKind.STATIC_INIT);
            }
            DUE.holds("11 some twenty fields: " + type, own <= MOST_FIELDS);
        }

        @Override
        public Void visitMethod(MethodTree tree, Void none) {
            calls.put((ExecutableElement) trees.getElement(getCurrentPath()), new LinkedHashSet<>());
            DUE.holds("11 parameters of " + tree.getName(), tree.getParameters().size() <= MOST_PARAMETERS);
            DUE.holds("11 lines of " + tree.getName(), lines(tree) <= MOST_LINES);
            return super.visitMethod(tree, none);
        }

        private long lines(Tree tree) {
            long from = trees.getSourcePositions().getStartPosition(unit, tree);
            long to = trees.getSourcePositions().getEndPosition(unit, tree);
            return unit.getLineMap().getLineNumber(to) - unit.getLineMap().getLineNumber(from) + 1;
        }
    }

    private final class Bodies extends TreePathScanner<Void, Void> {
        private ExecutableElement within;

        @Override
        public Void scan(Tree tree, Void none) {
            DUE.holds("2 to 6 not ruled out: " + tree, tree == null || !RULED_OUT.contains(tree.getKind()));
            return super.scan(tree, none);
        }

        @Override
        public Void visitMethod(MethodTree tree, Void none) {
            within = (ExecutableElement) trees.getElement(getCurrentPath());
            super.visitMethod(tree, none);
            within = null;
            return null;
        }

        @Override
        public Void visitMethodInvocation(MethodInvocationTree tree, Void none) {
            ExecutableElement called = (ExecutableElement) trees.getElement(getCurrentPath());
            if (isOwn(called)) {
                boolean toSuper = tree.getMethodSelect() instanceof MemberSelectTree select
                        && select.getExpression().toString().equals("super");
                calls.get(within).add(called);
                if (!toSuper) {
                    calls.get(within).addAll(overridersOf(called));
                }
            } else {
                String name = called.getEnclosingElement() + "." + called.getSimpleName();
                DUE.holds("4 of the library: " + name, LIBRARY.contains(name) || name.equals("java.lang.Object.<init>"));
            }
            return super.visitMethodInvocation(tree, none);
        }

        @Override
        public Void visitNewClass(NewClassTree tree, Void none) {
            ExecutableElement made = (ExecutableElement) trees.getElement(getCurrentPath());
            DUE.holds("3 an object of its own: " + tree, isOwn(made) && tree.getClassBody() == null);
            mayBeMadeHere(tree);
            calls.get(within).add(made);
            return super.visitNewClass(tree, none);
        }

        @Override
        public Void visitNewArray(NewArrayTree tree, Void none) {
            DUE.holds("3 of one dimension: " + tree, tree.getDimensions().size() == 1 && tree.getInitializers() == null);
            mayBeMadeHere(tree);
            return super.visitNewArray(tree, none);
        }

        /** All calls of a run live in one room, so rows are made once; a way alone is made later. */
        private void mayBeMadeHere(Tree tree) {
            DUE.holds("12 made by a constructor or as a way: " + tree, within != null
                    && (within.getKind() == ElementKind.CONSTRUCTOR || within.getSimpleName().contentEquals("layWay")));
            for (TreePath path = getCurrentPath(); path != null; path = path.getParentPath()) {
                DUE.holds("12 not in a loop: " + tree, !(path.getLeaf() instanceof ForLoopTree));
            }
        }

        @Override
        public Void visitVariable(VariableTree tree, Void none) {
            String type = String.valueOf(tree.getType());
            boolean own = classes.stream().anyMatch(c -> type.equals(c.getSimpleName().toString())
                    || type.equals(c.getSimpleName() + "[]"));
            DUE.holds("3 a type of the rules: " + tree, PLAIN.contains(type) || own);
            return super.visitVariable(tree, none);
        }

        @Override
        public Void visitTypeCast(TypeCastTree tree, Void none) {
            DUE.holds("6 a cast of numbers: " + tree, Set.of("byte", "short").contains(tree.getType().toString()));
            return super.visitTypeCast(tree, none);
        }

        @Override
        public Void visitForLoop(ForLoopTree tree, Void none) {
            DUE.holds("9 a loop with an end: " + tree, tree.getCondition() != null && tree.getUpdate().size() == 1);
            return super.visitForLoop(tree, none);
        }
    }

    private List<ExecutableElement> overridersOf(ExecutableElement called) {
        List<ExecutableElement> found = new ArrayList<>();
        for (ExecutableElement method : calls.keySet()) {
            if (task.getElements().overrides(method, called, (TypeElement) method.getEnclosingElement())) {
                found.add(method);
            }
        }
        return found;
    }

    private static boolean isPublic(Element member) {
        return member.getModifiers().contains(Modifier.PUBLIC);
    }

    private void namesOfTheFace() {
        Map<String, ExecutableElement> face = new HashMap<>();
        calls.keySet().stream().filter(LanguageTest::isPublic).forEach(m -> face.put(m.getSimpleName().toString(), m));
        for (ExecutableElement method : calls.keySet()) {
            DUE.holds("1 no other method bears the name of a public one: " + method, method.getKind()
                    == ElementKind.CONSTRUCTOR || isPublic(method) || !face.containsKey(method.getSimpleName().toString()));
        }
        DUE.is("1 the calls of the face", face.size(), 40);
    }

    /** A constructor calls nothing that a class below could override. */
    private void overridden() {
        for (Map.Entry<ExecutableElement, Set<ExecutableElement>> entry : calls.entrySet()) {
            for (ExecutableElement called : entry.getValue()) {
                DUE.holds("12 a constructor calls constructors alone: " + called, entry.getKey().getKind()
                        != ElementKind.CONSTRUCTOR || called.getKind() == ElementKind.CONSTRUCTOR);
                DUE.holds("8 it calls itself: " + called, called != entry.getKey()
                        || RECURSIVE.contains(called.getSimpleName().toString())
                        && called.getModifiers().contains(Modifier.PRIVATE));
            }
        }
    }

    private void depths() {
        Map<ExecutableElement, Integer> known = new HashMap<>();
        int deepest = 0;
        for (ExecutableElement method : calls.keySet()) {
            deepest = Math.max(deepest, depthOf(method, known, new LinkedHashSet<>()));
        }
        DUE.holds("11 calls go at most eight deep: " + deepest, deepest <= MOST_DEEP);
        DUE.holds("depths were seen: " + deepest, deepest >= 5);
    }

    /** How many calls stand open at most, one that calls itself counted once; another ring of calls is told. */
    private int depthOf(ExecutableElement method, Map<ExecutableElement, Integer> known, Set<ExecutableElement> open) {
        if (known.containsKey(method)) {
            return known.get(method);
        }
        DUE.holds("8 no ring of calls by " + method, !open.contains(method));
        if (!open.add(method)) {
            return 0;
        }
        int below = 0;
        for (ExecutableElement called : calls.getOrDefault(method, Set.of())) {
            if (called != method) {
                below = Math.max(below, depthOf(called, known, open));
            }
        }
        open.remove(method);
        known.put(method, below + 1);
        return below + 1;
    }

    public static void main(String[] args) throws IOException {
        String source = Files.readString(SOURCE);
        DUE.holds("4 signs 1 to 127 alone", source.chars().allMatch(c -> c > 0 && c < 128));
        JavaCompiler compiler = ToolProvider.getSystemJavaCompiler();
        try (StandardJavaFileManager files = compiler.getStandardFileManager(null, null, null)) {
            JavacTask task = (JavacTask) compiler.getTask(null, files, null, List.of("-proc:none"), null,
                    files.getJavaFileObjects(SOURCE));
            new LanguageTest(task).look();
        }
        DUE.end();
    }
}
