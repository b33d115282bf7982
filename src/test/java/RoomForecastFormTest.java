import com.sun.source.tree.*;
import com.sun.source.util.JavacTask;
import com.sun.source.util.TreePath;
import com.sun.source.util.TreePathScanner;
import com.sun.source.util.Trees;
import java.nio.file.Path;
import java.util.ArrayList;
import java.util.HashMap;
import java.util.HashSet;
import java.util.List;
import java.util.Map;
import java.util.Set;
import java.util.TreeSet;
import javax.lang.model.element.Element;
import javax.lang.model.element.ElementKind;
import javax.lang.model.element.Modifier;
import javax.lang.model.type.TypeMirror;
import javax.tools.JavaCompiler;
import javax.tools.StandardJavaFileManager;
import javax.tools.ToolProvider;

/**
 * The rules of ../shared/LANGUAGE.md that can be read off the source, read off the compiler's tree of it. Where the
 * class needs less than a rule leaves (no try, no recursion, no double), the test leaves no more than the class needs.
 */
public final class RoomForecastFormTest extends Checks {
    private static final Path SOURCE = Path.of("src", "main", "java", "RoomForecast.java");
    private static final Set<String> FACE = Set.of("addStore", "setSize", "sample", "clean", "setRule", "pass", "today",
            "samples", "slopeNumerator", "slopeDenominator", "usual", "forecast", "full", "early", "late", "warns",
            "poolFull");
    private static final Set<String> EXCEPTIONS = Set.of("IllegalStateException", "IllegalArgumentException",
            "IndexOutOfBoundsException");
    private static final Set<String> LIBRARY = Set.of("ArrayList.add", "ArrayList.get", "ArrayList.size",
            "Math.floorDiv", "Math.min", "Math.max", "Math.abs");
    private static final Set<String> VALUES = Set.of("int", "long", "boolean");
    private static final int MOST_PARAMETERS = 7;
    private static final int MOST_LINES = 60;
    private static final int MOST_CALLS_DEEP = 8;
    private static final int MOST_CLASSES = 12;
    private static final int MOST_FIELDS = 20;

    public static void main(String[] args) throws Exception {
        JavaCompiler compiler = ToolProvider.getSystemJavaCompiler();
        try (StandardJavaFileManager files = compiler.getStandardFileManager(null, null, null)) {
            JavacTask task = (JavacTask) compiler.getTask(null, files, null, List.of("-proc:none"), null,
                    files.getJavaFileObjects(SOURCE));
            CompilationUnitTree unit = task.parse().iterator().next();
            task.analyze();
            Reader reader = new Reader(Trees.instance(task), unit);
            reader.scan(unit, null);
            reader.tellFile();
        }
        finish();
    }

    /** Gathers each breach of a rule with its line, and which method calls which. */
    private static final class Reader extends TreePathScanner<Void, Void> {
        private final Trees trees;
        private final CompilationUnitTree unit;
        private final Set<String> own = new TreeSet<>();
        private final Map<Element, Set<Element>> calls = new HashMap<>();
        private final List<String> breaches = new ArrayList<>();
        private Element method = null;
        private int classes = 0;

        Reader(Trees trees, CompilationUnitTree unit) {
            this.trees = trees;
            this.unit = unit;
        }

        void tellFile() {
            for (String breach : breaches) {
                due("LANGUAGE.md", breach, "no breach");
            }
            due("breaches", breaches.size(), 0);
            due("rule 1: a package line", unit.getPackageName() != null, false);
            due("rule 1: classes in the file beside the public one", unit.getTypeDecls().size() - 1, 0);
            due("rule 11: at most 12 classes, " + classes, classes <= MOST_CLASSES, true);
            due("the methods were read", calls.size() > FACE.size(), true);
            for (Element called : calls.keySet()) {
                int deep = depth(called, 0);
                due("rules 8 and 11: " + called + " is " + deep + " deep", deep <= MOST_CALLS_DEEP, true);
            }
        }

        /** A recursion is as deep as this test looks, and so too deep. */
        private int depth(Element from, int above) {
            int deepest = 1;
            for (Element called : calls.getOrDefault(from, Set.of())) {
                if (above <= MOST_CALLS_DEEP) {
                    deepest = Math.max(deepest, 1 + depth(called, above + 1));
                }
            }
            return deepest;
        }

        private void demand(boolean holds, int rule, String what, Tree at) {
            if (!holds) {
                long line = unit.getLineMap().getLineNumber(trees.getSourcePositions().getStartPosition(unit, at));
                breaches.add("rule " + rule + ", line " + line + ": " + what);
            }
        }

        private Element element(Tree tree) {
            return trees.getElement(new TreePath(getCurrentPath(), tree));
        }

        private Element here() {
            return trees.getElement(getCurrentPath());
        }

        private String typeOf(Tree tree) {
            TypeMirror type = trees.getTypeMirror(new TreePath(getCurrentPath(), tree));
            return type == null ? "" : type.toString();
        }

        // ---- classes and members

        @Override
        public Void visitImport(ImportTree tree, Void none) {
            demand(tree.getQualifiedIdentifier().toString().equals("java.util.ArrayList"), 4, "import", tree);
            return super.visitImport(tree, none);
        }

        @Override
        public Void visitClass(ClassTree tree, Void none) {
            Element read = here();
            boolean face = read.getSimpleName().contentEquals("RoomForecast");
            classes++;
            own.add(read.toString());
            demand(tree.getKind() == Tree.Kind.CLASS, 2, "a kind of class that is not needed", tree);
            Set<Modifier> modifiers = read.getModifiers();
            demand(face ? modifiers.contains(Modifier.PUBLIC) && modifiers.contains(Modifier.FINAL)
                    : modifiers.contains(Modifier.PRIVATE) && modifiers.contains(Modifier.STATIC), 1, "class", tree);
            int fields = 0;
            for (Tree member : tree.getMembers()) {
                Element held = element(member);
                demand(held != null, 5, "an initialiser block", member);
                if (held != null && held.getKind() == ElementKind.FIELD
                        && !held.getModifiers().contains(Modifier.STATIC)) {
                    fields++;
                }
            }
            demand(fields <= MOST_FIELDS, 11, fields + " fields", tree);
            return super.visitClass(tree, none);
        }

        @Override
        public Void visitMethod(MethodTree tree, Void none) {
            Element outer = method;
            method = here();
            calls.computeIfAbsent(method, made -> new HashSet<>());
            String name = tree.getName().toString();
            boolean open = method.getModifiers().contains(Modifier.PUBLIC);
            boolean ofFace = method.getEnclosingElement().getSimpleName().contentEquals("RoomForecast");
            if (method.getKind() == ElementKind.CONSTRUCTOR) {
                demand(open == ofFace, 1, "constructor", tree);
            } else {
                demand(open == FACE.contains(name) && (!open || ofFace), 1, "name or modifiers of " + name, tree);
                demand(!ofFace || open || method.getModifiers().contains(Modifier.PRIVATE), 1, "package-visible", tree);
            }
            demand(!Set.of("equals", "hashCode", "toString").contains(name), 6, name, tree);
            demand(!method.getModifiers().contains(Modifier.SYNCHRONIZED), 6, "synchronized", tree);
            demand(tree.getParameters().size() <= MOST_PARAMETERS, 11, "parameters of " + name, tree);
            demand(lines(tree) <= MOST_LINES, 11, "lines of " + name, tree);
            super.visitMethod(tree, none);
            method = outer;
            return null;
        }

        private long lines(Tree tree) {
            long start = trees.getSourcePositions().getStartPosition(unit, tree);
            long end = trees.getSourcePositions().getEndPosition(unit, tree);
            return end < 0 ? 0 : unit.getLineMap().getLineNumber(end) - unit.getLineMap().getLineNumber(start) + 1;
        }

        @Override
        public Void visitVariable(VariableTree tree, Void none) {
            String type = typeOf(tree);
            boolean isStatic = here().getModifiers().contains(Modifier.STATIC);
            demand(isStatic ? VALUES.contains(type) && here().getModifiers().contains(Modifier.FINAL)
                    : VALUES.contains(type) || type.equals("int[]") || type.startsWith("RoomForecast.")
                    || type.equals("java.util.ArrayList<RoomForecast.Store>"), isStatic ? 5 : 3, "type " + type, tree);
            return super.visitVariable(tree, none);
        }

        // ---- what the methods do

        @Override
        public Void visitMethodInvocation(MethodInvocationTree tree, Void none) {
            Element called = here();
            Element owner = called.getEnclosingElement();
            if (own.contains(owner.toString()) || owner.toString().startsWith("RoomForecast")) {
                if (method != null) {
                    calls.get(method).add(called);
                }
            } else if (called.getKind() != ElementKind.CONSTRUCTOR) {
                String name = owner.getSimpleName() + "." + called.getSimpleName();
                demand(LIBRARY.contains(name), 4, name, tree);
            }
            return super.visitMethodInvocation(tree, none);
        }

        @Override
        public Void visitNewClass(NewClassTree tree, Void none) {
            String type = typeOf(tree);
            boolean thrown = getCurrentPath().getParentPath().getLeaf().getKind() == Tree.Kind.THROW;
            boolean kept = method == null || method.getKind() == ElementKind.CONSTRUCTOR
                    || method.getSimpleName().contentEquals("addStore");
            demand(thrown || kept, 12, "an object made by a call other than addStore", tree);
            demand(thrown || type.startsWith("RoomForecast.") || type.startsWith("java.util.ArrayList"), 4, type, tree);
            demand(tree.getClassBody() == null, 2, "an anonymous class", tree);
            return super.visitNewClass(tree, none);
        }

        @Override
        public Void visitNewArray(NewArrayTree tree, Void none) {
            demand(method == null && typeOf(tree).equals("int[]"), 12, "an array that is no row of a new store", tree);
            return super.visitNewArray(tree, none);
        }

        @Override
        public Void visitThrow(ThrowTree tree, Void none) {
            demand(method != null && method.getKind() == ElementKind.METHOD, 6, "throw in a constructor", tree);
            boolean good = tree.getExpression() instanceof NewClassTree made
                    && EXCEPTIONS.contains(made.getIdentifier().toString()) && made.getArguments().size() == 1
                    && made.getArguments().get(0).getKind() == Tree.Kind.STRING_LITERAL;
            demand(good, 6, "throw", tree);
            return super.visitThrow(tree, none);
        }

        @Override
        public Void visitLiteral(LiteralTree tree, Void none) {
            if (tree.getValue() instanceof String text) {
                demand(text.chars().allMatch(sign -> sign >= 1 && sign <= 127), 4, "a sign in a text", tree);
            }
            return super.visitLiteral(tree, none);
        }

        @Override
        public Void visitBinary(BinaryTree tree, Void none) {
            demand(VALUES.contains(typeOf(tree)), 10, "texts joined, or other types", tree);
            return super.visitBinary(tree, none);
        }

        @Override
        public Void visitTypeCast(TypeCastTree tree, Void none) {
            demand(VALUES.contains(typeOf(tree)), 6, "a cast between objects", tree);
            return super.visitTypeCast(tree, none);
        }

        @Override
        public Void visitForLoop(ForLoopTree tree, Void none) {
            demand(tree.getCondition() != null, 9, "a loop without an end", tree);
            return super.visitForLoop(tree, none);
        }

        @Override
        public Void visitWhileLoop(WhileLoopTree tree, Void none) {
            ExpressionTree asked = ((ParenthesizedTree) tree.getCondition()).getExpression();
            demand(asked.getKind() == Tree.Kind.CONDITIONAL_AND, 9, "a loop without a counter's bound", tree);
            return super.visitWhileLoop(tree, none);
        }

        @Override
        public Void scan(Tree tree, Void none) {
            if (tree != null) {
                switch (tree.getKind()) {
                    case TRY, SYNCHRONIZED, ASSERT, LAMBDA_EXPRESSION, MEMBER_REFERENCE, SWITCH, SWITCH_EXPRESSION,
                            DO_WHILE_LOOP, ENHANCED_FOR_LOOP, INSTANCE_OF, DOUBLE_LITERAL, FLOAT_LITERAL ->
                        demand(false, 6, "not needed: " + tree.getKind(), tree);
                    default -> { }
                }
            }
            return super.scan(tree, none);
        }
    }
}
