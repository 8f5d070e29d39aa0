import com.sun.source.tree.BinaryTree;
import com.sun.source.tree.ClassTree;
import com.sun.source.tree.CompilationUnitTree;
import com.sun.source.tree.CompoundAssignmentTree;
import com.sun.source.tree.DoWhileLoopTree;
import com.sun.source.tree.ExpressionTree;
import com.sun.source.tree.ForLoopTree;
import com.sun.source.tree.MethodInvocationTree;
import com.sun.source.tree.MethodTree;
import com.sun.source.tree.NewClassTree;
import com.sun.source.tree.ParenthesizedTree;
import com.sun.source.tree.Tree;
import com.sun.source.tree.VariableTree;
import com.sun.source.tree.WhileLoopTree;
import com.sun.source.util.JavacTask;
import com.sun.source.util.TreePathScanner;
import com.sun.source.util.Trees;
import java.io.File;
import java.util.EnumSet;
import java.util.HashMap;
import java.util.HashSet;
import java.util.LinkedHashSet;
import java.util.Map;
import java.util.Set;
import javax.lang.model.element.Element;
import javax.lang.model.element.Modifier;
import javax.lang.model.type.TypeKind;
import javax.lang.model.type.TypeMirror;
import javax.tools.JavaCompiler;
import javax.tools.StandardJavaFileManager;
import javax.tools.ToolProvider;

/** Rules of LANGUAGE.md that the compiler's own trees show: what stands in the source, and how deep calls go. */
public final class RulesTest {
    private static final Check CHECK = new Check("RulesTest");
    private static final Set<Tree.Kind> NEVER = EnumSet.of(Tree.Kind.LAMBDA_EXPRESSION, Tree.Kind.MEMBER_REFERENCE,
            Tree.Kind.ASSERT, Tree.Kind.SYNCHRONIZED, Tree.Kind.TRY, Tree.Kind.SWITCH_EXPRESSION, Tree.Kind.YIELD,
            Tree.Kind.FLOAT_LITERAL, Tree.Kind.DOUBLE_LITERAL, Tree.Kind.ANNOTATION);
    private static final Set<Tree.Kind> COMPARES = EnumSet.of(Tree.Kind.LESS_THAN, Tree.Kind.LESS_THAN_EQUAL,
            Tree.Kind.GREATER_THAN, Tree.Kind.GREATER_THAN_EQUAL);
    private static final Set<String> LIBRARY = Set.of("Math.max(int,int)", "Math.min(int,int)", "Math.max(long,long)",
            "Math.min(long,long)", "Math.abs(int)", "Integer.bitCount(int)", "String.length()", "String.indexOf(int)",
            "System.arraycopy(java.lang.Object,int,java.lang.Object,int,int)", "Object.Object()",
            "NoSuchElementException.NoSuchElementException()");
    private static final Set<String> TYPES = Set.of("int", "long", "boolean", "char", "void", "int[]", "long[]",
            "boolean[]", "int[][]", "java.lang.String", "java.util.NoSuchElementException");
    private static final Map<Element, Set<Element>> CALLS = new HashMap<>();

    public static void main(String[] args) throws Exception {
        String source = args.length > 0 ? args[0] : "src/main/java/LastThanked.java";
        JavaCompiler compiler = ToolProvider.getSystemJavaCompiler();
        try (StandardJavaFileManager files = compiler.getStandardFileManager(null, null, null)) {
            JavacTask task = (JavacTask) compiler.getTask(null, files, null, null, null,
                    files.getJavaFileObjects(new File(source)));
            Iterable<? extends CompilationUnitTree> units = task.parse();
            task.analyze();
            for (CompilationUnitTree unit : units) {
                new Reader(unit, Trees.instance(task)).scan(unit, null);
            }
        }
        CHECK.due("methods seen", CALLS.size() > 100, true);
        int deepest = 0;
        for (Element method : CALLS.keySet()) {
            deepest = Math.max(deepest, depth(method));
        }
        CHECK.due("calls go " + deepest + " deep, at most 8", deepest <= 8, true);
        CHECK.end();
    }

    /** How many calls stand open at most, a group that calls itself counted once. */
    private static int depth(Element method) {
        Set<Element> group = groupOf(method);
        int deepest = 0;
        for (Element member : group) {
            for (Element called : CALLS.get(member)) {
                if (!group.contains(called)) {
                    deepest = Math.max(deepest, depth(called));
                }
            }
        }
        return deepest + 1;
    }

    private static Set<Element> groupOf(Element method) {
        Set<Element> group = new HashSet<>();
        group.add(method);
        for (Element called : calledBy(method)) {
            if (calledBy(called).contains(method)) {
                group.add(called);
            }
        }
        return group;
    }

    private static Set<Element> calledBy(Element method) {
        Set<Element> all = new LinkedHashSet<>(CALLS.get(method));
        for (int before = -1; before < all.size();) {
            before = all.size();
            for (Element called : Set.copyOf(all)) {
                all.addAll(CALLS.get(called));
            }
        }
        return all;
    }

    private static final class Reader extends TreePathScanner<Void, Element> {
        private final CompilationUnitTree unit;
        private final Trees trees;

        Reader(CompilationUnitTree unit, Trees trees) {
            this.unit = unit;
            this.trees = trees;
        }

        private long line(Tree tree) {
            return unit.getLineMap().getLineNumber(trees.getSourcePositions().getStartPosition(unit, tree));
        }

        private long lastLine(Tree tree) {
            return unit.getLineMap().getLineNumber(trees.getSourcePositions().getEndPosition(unit, tree));
        }

        @Override
        public Void scan(Tree tree, Element method) {
            if (tree != null) {
                CHECK.due("line " + line(tree) + " has a " + tree.getKind(), NEVER.contains(tree.getKind()), false);
            }
            return super.scan(tree, method);
        }

        @Override
        public Void visitClass(ClassTree tree, Element method) {
            int fields = 0;
            for (Tree member : tree.getMembers()) {
                if (member instanceof VariableTree) {
                    Set<Modifier> modifiers = ((VariableTree) member).getModifiers().getFlags();
                    boolean fixed = modifiers.contains(Modifier.STATIC);
                    fields += fixed ? 0 : 1;
                    CHECK.due(member + " is static and final", !fixed || modifiers.contains(Modifier.FINAL), true);
                }
                CHECK.due("static block in " + tree.getSimpleName(), member.getKind() == Tree.Kind.BLOCK, false);
            }
            CHECK.due("fields of " + tree.getSimpleName(), fields <= 20, true);
            return super.visitClass(tree, method);
        }

        @Override
        public Void visitMethod(MethodTree tree, Element method) {
            Element here = trees.getElement(getCurrentPath());
            CALLS.computeIfAbsent(here, key -> new LinkedHashSet<>());
            CHECK.due(tree.getName() + " takes few", tree.getParameters().size() <= 7, true);
            CHECK.due(tree.getName() + " is short", lastLine(tree) - line(tree) <= 60, true);
            return super.visitMethod(tree, here);
        }

        @Override
        public Void visitVariable(VariableTree tree, Element method) {
            TypeMirror type = trees.getTypeMirror(getCurrentPath());
            boolean own = type.toString().startsWith("LastThanked");
            CHECK.due(tree + " has a type of rule 3", own || TYPES.contains(type.toString()), true);
            return super.visitVariable(tree, method);
        }

        @Override
        public Void visitMethodInvocation(MethodInvocationTree tree, Element method) {
            called(trees.getElement(getCurrentPath()), method, tree);
            return super.visitMethodInvocation(tree, method);
        }

        @Override
        public Void visitNewClass(NewClassTree tree, Element method) {
            called(trees.getElement(getCurrentPath()), method, tree);
            return super.visitNewClass(tree, method);
        }

        private void called(Element what, Element method, Tree tree) {
            String owner = what.getEnclosingElement().toString();
            if (owner.startsWith("LastThanked")) {
                CALLS.computeIfAbsent(what, key -> new LinkedHashSet<>());
                if (method != null) {
                    CALLS.get(method).add(what);
                }
            } else {
                String name = what.toString().startsWith("java") ? what.getSimpleName().toString() : what.toString();
                String call = what.getEnclosingElement().getSimpleName() + "." + name;
                CHECK.due("line " + line(tree) + " calls " + call, LIBRARY.contains(call), true);
            }
        }

        @Override
        public Void visitBinary(BinaryTree tree, Element method) {
            notText(tree);
            return super.visitBinary(tree, method);
        }

        @Override
        public Void visitCompoundAssignment(CompoundAssignmentTree tree, Element method) {
            notText(tree);
            return super.visitCompoundAssignment(tree, method);
        }

        private void notText(Tree tree) {
            TypeMirror type = trees.getTypeMirror(getCurrentPath());
            CHECK.due("line " + line(tree) + " joins texts", type.getKind() == TypeKind.DECLARED, false);
        }

        @Override
        public Void visitForLoop(ForLoopTree tree, Element method) {
            bounded(tree, tree.getCondition());
            return super.visitForLoop(tree, method);
        }

        @Override
        public Void visitWhileLoop(WhileLoopTree tree, Element method) {
            bounded(tree, tree.getCondition());
            return super.visitWhileLoop(tree, method);
        }

        @Override
        public Void visitDoWhileLoop(DoWhileLoopTree tree, Element method) {
            bounded(tree, tree.getCondition());
            return super.visitDoWhileLoop(tree, method);
        }

        private void bounded(Tree loop, ExpressionTree condition) {
            CHECK.due("line " + line(loop) + " has an end", condition != null && comparesAlways(condition), true);
        }

        /** A counter against a bound, be it as one of several that must all hold. */
        private static boolean comparesAlways(ExpressionTree condition) {
            if (condition instanceof ParenthesizedTree) {
                return comparesAlways(((ParenthesizedTree) condition).getExpression());
            }
            if (condition.getKind() == Tree.Kind.CONDITIONAL_AND) {
                BinaryTree both = (BinaryTree) condition;
                return comparesAlways(both.getLeftOperand()) || comparesAlways(both.getRightOperand());
            }
            return COMPARES.contains(condition.getKind());
        }
    }
}
