import com.sun.source.tree.*;
import com.sun.source.util.JavacTask;
import com.sun.source.util.SourcePositions;
import com.sun.source.util.TreePath;
import com.sun.source.util.TreePathScanner;
import com.sun.source.util.Trees;
import java.nio.file.Path;
import java.util.HashMap;
import java.util.HashSet;
import java.util.LinkedHashMap;
import java.util.List;
import java.util.Map;
import java.util.Set;
import javax.lang.model.element.Element;
import javax.lang.model.element.ElementKind;
import javax.lang.model.element.ExecutableElement;
import javax.lang.model.element.Modifier;
import javax.lang.model.element.TypeElement;
import javax.lang.model.type.ArrayType;
import javax.lang.model.type.TypeKind;
import javax.lang.model.type.TypeMirror;
import javax.tools.JavaCompiler;
import javax.tools.StandardJavaFileManager;
import javax.tools.ToolProvider;

/** The rules of LANGUAGE.md as the compiler's own tree of the source shows them, each under its number. */
public final class RulesTest {
    private static final Path SOURCE = Path.of("src/main/java/NoWifeBeside.java");
    private static final int MOST_PARAMETERS = 7, MOST_LINES = 60, MOST_DEPTH = 8, MOST_CLASSES = 12, MOST_FIELDS = 20;
    private static final Set<String> NUMBER_CLASSES = Set.of("java.lang.Integer", "java.lang.Long", "java.lang.Math");
    /** Kinds of trees that a rule leaves out. */
    private static final Map<Tree.Kind, Integer> NEVER = Map.ofEntries(
        Map.entry(Tree.Kind.LAMBDA_EXPRESSION, 2), Map.entry(Tree.Kind.MEMBER_REFERENCE, 2),
        Map.entry(Tree.Kind.THROW, 6), Map.entry(Tree.Kind.TRY, 6), Map.entry(Tree.Kind.CATCH, 6),
        Map.entry(Tree.Kind.SYNCHRONIZED, 6), Map.entry(Tree.Kind.ASSERT, 6), Map.entry(Tree.Kind.BINDING_PATTERN, 6),
        Map.entry(Tree.Kind.WHILE_LOOP, 9), Map.entry(Tree.Kind.DO_WHILE_LOOP, 9), Map.entry(Tree.Kind.ANNOTATION, 4));

    private static int wrong = 0;
    private static int seen = 0;

    public static void main(String[] args) throws Exception {
        JavaCompiler compiler = ToolProvider.getSystemJavaCompiler();
        try (StandardJavaFileManager files = compiler.getStandardFileManager(null, null, null)) {
            JavacTask task = (JavacTask) compiler.getTask(null, files, null, List.of("--release", "17"), null,
                files.getJavaFileObjects(SOURCE));
            CompilationUnitTree unit = task.parse().iterator().next();
            task.analyze();
            Rules rules = new Rules(unit, Trees.instance(task));
            rules.scan(unit, null);
            rules.calls();
            must(11, rules.classes <= MOST_CLASSES, "at most twelve classes, not " + rules.classes);
            must(4, unit.getImports().isEmpty(), "no import: no class of the library needs one here");
            must(1, unit.getPackageName() == null, "no package");
            must(1, rules.methods.size() > 33, "the methods were seen: " + rules.methods.size());
        }
        System.out.println(seen + " places held against the rules, " + wrong + " not as they ask");
        if (wrong > 0) {
            System.exit(1);
        }
    }

    private static void must(int rule, boolean holds, String what) {
        seen++;
        if (!holds) {
            wrong++;
            System.out.println("rule " + rule + ": " + what);
        }
    }

    private static final class Rules extends TreePathScanner<Void, Void> {
        private final CompilationUnitTree unit;
        private final Trees trees;
        private final SourcePositions positions;
        private final Map<ExecutableElement, Set<ExecutableElement>> methods = new LinkedHashMap<>();
        private ExecutableElement method = null;
        private int loops = 0;
        private int classes = 0;

        Rules(CompilationUnitTree unit, Trees trees) {
            this.unit = unit;
            this.trees = trees;
            this.positions = trees.getSourcePositions();
        }

        private long lineOf(long position) {
            return unit.getLineMap().getLineNumber(position);
        }

        private String at(Tree tree) {
            String text = tree.toString().strip();
            return "line " + lineOf(positions.getStartPosition(unit, tree)) + ": " + text.lines().findFirst().orElse("");
        }

        private Element elementOf(Tree tree) {
            return trees.getElement(new TreePath(getCurrentPath(), tree));
        }

        private TypeMirror typeOf(Tree tree) {
            return trees.getTypeMirror(new TreePath(getCurrentPath(), tree));
        }

        @Override
        public Void scan(Tree tree, Void nothing) {
            if (tree != null && NEVER.containsKey(tree.getKind())) {
                must(NEVER.get(tree.getKind()), false, at(tree));
            }
            return super.scan(tree, nothing);
        }

        // ---- classes, fields, methods

        @Override
        public Void visitClass(ClassTree tree, Void nothing) {
            classes++;
            Tree parent = getCurrentPath().getParentPath().getLeaf();
            boolean outer = parent instanceof CompilationUnitTree;
            must(2, outer || parent instanceof ClassTree, "no local and no anonymous class, " + at(tree));
            Set<Modifier> flags = tree.getModifiers().getFlags();
            must(1, outer || !flags.contains(Modifier.PUBLIC) && !flags.contains(Modifier.PROTECTED), "hidden, " + at(tree));
            must(2, outer || flags.contains(Modifier.STATIC), "static, " + at(tree));
            long fields = tree.getMembers().stream().filter(m -> m instanceof VariableTree v
                && !v.getModifiers().getFlags().contains(Modifier.STATIC)).count();
            must(11, fields <= MOST_FIELDS, "at most twenty fields, " + at(tree));
            must(5, tree.getMembers().stream().noneMatch(m -> m instanceof BlockTree), "no block of its own, " + at(tree));
            return super.visitClass(tree, nothing);
        }

        @Override
        public Void visitVariable(VariableTree tree, Void nothing) {
            Element variable = trees.getElement(getCurrentPath());
            TypeMirror type = variable.asType();
            must(3, isLeft(type), "a type that is left, " + at(tree));
            if (variable.getModifiers().contains(Modifier.STATIC)) {
                must(5, variable.getModifiers().contains(Modifier.FINAL), "a static field is final, " + at(tree));
                boolean row = type.getKind() == TypeKind.ARRAY && tree.getInitializer() instanceof NewArrayTree written
                    && written.getInitializers() != null;
                must(5, row || type.getKind().isPrimitive(), "a constant, or a row that is written out, " + at(tree));
            }
            return super.visitVariable(tree, nothing);
        }

        private static boolean isLeft(TypeMirror type) {
            if (type instanceof ArrayType row) {
                return row.getComponentType().getKind().isPrimitive();
            }
            return type.getKind().isPrimitive() || isOwn(type.toString());
        }

        private static boolean isOwn(String name) {
            return name.equals("NoWifeBeside") || name.startsWith("NoWifeBeside.");
        }

        @Override
        public Void visitMethod(MethodTree tree, Void nothing) {
            method = (ExecutableElement) trees.getElement(getCurrentPath());
            methods.computeIfAbsent(method, m -> new HashSet<>());
            must(11, tree.getParameters().size() <= MOST_PARAMETERS, "at most seven parameters, " + at(tree));
            long first = lineOf(positions.getStartPosition(unit, tree));
            long last = lineOf(Math.max(0, positions.getEndPosition(unit, tree)));
            must(11, last - first < MOST_LINES, "short, " + at(tree));
            super.visitMethod(tree, nothing);
            method = null;
            return null;
        }

        // ---- what is called and made

        @Override
        public Void visitMethodInvocation(MethodInvocationTree tree, Void nothing) {
            ExecutableElement called = (ExecutableElement) elementOf(tree.getMethodSelect());
            String owner = ((TypeElement) called.getEnclosingElement()).getQualifiedName().toString();
            String name = called.getSimpleName().toString();
            if (isOwn(owner)) {
                methods.computeIfAbsent(method, m -> new HashSet<>()).add(called);
            } else if (!name.equals("<init>")) {
                boolean numbers = called.getParameters().stream().allMatch(p -> p.asType().getKind() == TypeKind.INT
                    || p.asType().getKind() == TypeKind.LONG);
                must(4, NUMBER_CLASSES.contains(owner) && called.getModifiers().contains(Modifier.STATIC) && numbers
                    && !name.endsWith("Exact"), "the library that is left, " + at(tree));
            }
            return super.visitMethodInvocation(tree, nothing);
        }

        @Override
        public Void visitNewClass(NewClassTree tree, Void nothing) {
            must(4, isOwn(typeOf(tree).toString()) && tree.getClassBody() == null, "a class of its own, " + at(tree));
            must(12, loops == 0, "nothing is made in a loop, " + at(tree));
            return super.visitNewClass(tree, nothing);
        }

        @Override
        public Void visitNewArray(NewArrayTree tree, Void nothing) {
            must(12, loops == 0, "nothing is made in a loop, " + at(tree));
            return super.visitNewArray(tree, nothing);
        }

        @Override
        public Void visitTypeCast(TypeCastTree tree, Void nothing) {
            must(6, typeOf(tree.getType()).getKind().isPrimitive(), "a cast of a number, " + at(tree));
            return super.visitTypeCast(tree, nothing);
        }

        @Override
        public Void visitBinary(BinaryTree tree, Void nothing) {
            must(10, typeOf(tree).getKind().isPrimitive(), "no texts joined by +, " + at(tree));
            return super.visitBinary(tree, nothing);
        }

        @Override
        public Void visitAssignment(AssignmentTree tree, Void nothing) {
            if (tree.getVariable() instanceof ArrayAccessTree cell) {
                Element row = elementOf(cell.getExpression());
                must(5, row == null || !row.getModifiers().contains(Modifier.STATIC), "a static row stays, " + at(tree));
            }
            return super.visitAssignment(tree, nothing);
        }

        // ---- loops

        @Override
        public Void visitEnhancedForLoop(EnhancedForLoopTree tree, Void nothing) {
            loops++;
            super.visitEnhancedForLoop(tree, nothing);
            loops--;
            return null;
        }

        @Override
        public Void visitForLoop(ForLoopTree tree, Void nothing) {
            must(9, tree.getInitializer().size() == 1 && tree.getInitializer().get(0) instanceof VariableTree
                && tree.getUpdate().size() == 1 && tree.getCondition() != null, "a counter and a bound, " + at(tree));
            if (tree.getInitializer().get(0) instanceof VariableTree counter && tree.getCondition() != null) {
                String name = counter.getName().toString();
                boolean up = tree.getUpdate().toString().startsWith(name + "++");
                boolean down = tree.getUpdate().toString().startsWith(name + "--");
                must(9, up || down, "counts by one, " + at(tree));
                must(9, bounds(tree.getCondition(), name, up), "its bound stands in its own line, " + at(tree));
                must(9, !changes(tree.getStatement(), name), "the counter is changed by the loop alone, " + at(tree));
            }
            loops++;
            super.visitForLoop(tree, nothing);
            loops--;
            return null;
        }

        /** One of the conditions that are joined by && must hold the counter against a bound. */
        private static boolean bounds(Tree condition, String name, boolean up) {
            if (condition instanceof ParenthesizedTree inside) {
                return bounds(inside.getExpression(), name, up);
            }
            if (!(condition instanceof BinaryTree two)) {
                return false;
            }
            if (two.getKind() == Tree.Kind.CONDITIONAL_AND) {
                return bounds(two.getLeftOperand(), name, up) || bounds(two.getRightOperand(), name, up);
            }
            boolean ordered = up ? two.getKind() == Tree.Kind.LESS_THAN || two.getKind() == Tree.Kind.LESS_THAN_EQUAL
                : two.getKind() == Tree.Kind.GREATER_THAN || two.getKind() == Tree.Kind.GREATER_THAN_EQUAL;
            return ordered && two.getLeftOperand().toString().equals(name);
        }

        private static boolean changes(Tree body, String name) {
            return body.toString().matches("(?s).*(?<![\\w.])" + name + "(\\+\\+|--| [-+*/%&|^]?= ).*");
        }

        // ---- who calls whom

        /** Recursion only of private static methods by themselves; other calls stand few deep. */
        void calls() {
            Map<ExecutableElement, Integer> depths = new HashMap<>();
            for (ExecutableElement one : methods.keySet()) {
                if (methods.get(one).contains(one)) {
                    Set<Modifier> flags = one.getModifiers();
                    must(8, flags.contains(Modifier.PRIVATE) && flags.contains(Modifier.STATIC), "calls itself: " + one);
                }
                int depth = depthOf(one, depths, new HashSet<>());
                must(11, depth <= MOST_DEPTH, one + " calls " + depth + " deep");
            }
        }

        private int depthOf(ExecutableElement one, Map<ExecutableElement, Integer> depths, Set<ExecutableElement> above) {
            if (depths.containsKey(one)) {
                return depths.get(one);
            }
            above.add(one);
            int deepest = 0;
            for (ExecutableElement next : methods.getOrDefault(one, Set.of())) {
                if (next != one && next.getKind() == ElementKind.METHOD) {
                    boolean round = above.contains(next);
                    must(8, !round, one + " and " + next + " call one another");
                    deepest = round ? deepest : Math.max(deepest, depthOf(next, depths, above));
                }
            }
            above.remove(one);
            depths.put(one, deepest + 1);
            return deepest + 1;
        }
    }
}
