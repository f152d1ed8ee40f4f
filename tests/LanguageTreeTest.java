import com.sun.source.tree.AnnotationTree;
import com.sun.source.tree.AssertTree;
import com.sun.source.tree.BinaryTree;
import com.sun.source.tree.ClassTree;
import com.sun.source.tree.CompilationUnitTree;
import com.sun.source.tree.CompoundAssignmentTree;
import com.sun.source.tree.DoWhileLoopTree;
import com.sun.source.tree.ExpressionTree;
import com.sun.source.tree.ForLoopTree;
import com.sun.source.tree.IdentifierTree;
import com.sun.source.tree.LambdaExpressionTree;
import com.sun.source.tree.LiteralTree;
import com.sun.source.tree.MemberReferenceTree;
import com.sun.source.tree.MemberSelectTree;
import com.sun.source.tree.MethodInvocationTree;
import com.sun.source.tree.MethodTree;
import com.sun.source.tree.NewArrayTree;
import com.sun.source.tree.NewClassTree;
import com.sun.source.tree.SynchronizedTree;
import com.sun.source.tree.ThrowTree;
import com.sun.source.tree.Tree;
import com.sun.source.tree.TryTree;
import com.sun.source.tree.TypeCastTree;
import com.sun.source.tree.VariableTree;
import com.sun.source.tree.WhileLoopTree;
import com.sun.source.util.JavacTask;
import com.sun.source.util.TreePath;
import com.sun.source.util.TreePathScanner;
import com.sun.source.util.Trees;
import java.io.IOException;
import java.nio.file.Path;
import java.util.ArrayList;
import java.util.HashMap;
import java.util.HashSet;
import java.util.List;
import java.util.Map;
import java.util.Set;
import java.util.TreeSet;
import javax.lang.model.element.Element;
import javax.lang.model.element.ExecutableElement;
import javax.lang.model.element.Modifier;
import javax.lang.model.element.TypeElement;
import javax.lang.model.type.TypeMirror;
import javax.lang.model.util.Types;
import javax.tools.JavaCompiler;
import javax.tools.StandardJavaFileManager;
import javax.tools.ToolProvider;

/**
 * That the class keeps to LANGUAGE.md by what the compiler understands of it: what each call calls,
 * of which type each thing is, how deep the calls go. What words can tell is in LanguageTest. Some
 * of what the rules leave is refused here, too, as the class doesn't need it: lists, casts of
 * objects, loops whose end is looked at last, rows made outside constructors.
 */
final class LanguageTreeTest {
    private static final Path SOURCE = Path.of("src/main/java/LiftCredit.java");
    private static final int MOST_DEEP = 8;
    private static final int MOST_OPEN_CALLS = 300;
    private static final Set<String> PLAIN_TYPES = Set.of("int", "long", "short", "byte", "char", "boolean",
        "double", "float", "void", "java.lang.String", "java.lang.StringBuilder");
    private static final Set<String> NUMBERS = Set.of("int", "long", "short", "byte", "double", "float");
    private static final Set<String> LIBRARY = Set.of(
        "java.lang.String.length()", "java.lang.String.charAt(int)", "java.lang.String.isEmpty()",
        "java.lang.String.indexOf(int)", "java.lang.String.substring(int)", "java.lang.String.substring(int,int)",
        "java.lang.String.toCharArray()", "java.lang.Integer.bitCount(int)", "java.lang.Math.min(int,int)",
        "java.lang.Math.max(int,int)", "java.lang.Math.abs(int)",
        "java.lang.System.arraycopy(java.lang.Object,int,java.lang.Object,int,int)",
        "java.util.Arrays.fill(int[],int)", "java.lang.Object.Object()");

    private final Trees trees;
    private final Types types;
    private final CompilationUnitTree unit;

    /** What a method's body calls. */
    private static final class Call {
        final ExecutableElement to;
        final boolean bySuper;
        final boolean onThis;

        Call(ExecutableElement to, boolean bySuper, boolean onThis) {
            this.to = to;
            this.bySuper = bySuper;
            this.onThis = onThis;
        }
    }

    private final Map<ExecutableElement, List<Call>> calls = new HashMap<>();
    private final List<TypeElement> classes = new ArrayList<>();

    private LanguageTreeTest(JavacTask task) throws IOException {
        unit = task.parse().iterator().next();
        task.analyze();
        trees = Trees.instance(task);
        types = task.getTypes();
    }

    public static void main(String[] arguments) throws IOException {
        JavaCompiler compiler = ToolProvider.getSystemJavaCompiler();
        try (StandardJavaFileManager files = compiler.getStandardFileManager(null, null, null)) {
            JavacTask task = (JavacTask) compiler.getTask(null, files, null, null, null,
                files.getJavaFileObjects(SOURCE));
            LanguageTreeTest test = new LanguageTreeTest(task);
            test.new Rules().scan(test.unit, null);
            test.callsAreNotDeep();
        }
        Due.verdict();
    }

    private void keeps(int rule, String what, Tree at, boolean so) {
        long line = unit.getLineMap().getLineNumber(trees.getSourcePositions().getStartPosition(unit, at));
        Due.holds("rule " + rule + ", line " + line + ": " + what, so);
    }

    private boolean isOwn(Element element) {
        Element at = element;
        while (at != null && !at.getSimpleName().contentEquals("LiftCredit")) {
            at = at.getEnclosingElement();
        }
        return at != null;
    }

    /** Everything that one look at one place can tell. */
    private final class Rules extends TreePathScanner<Void, Void> {
        private ExecutableElement inside = null;

        @Override
        public Void visitClass(ClassTree tree, Void none) {
            TypeElement type = (TypeElement) trees.getElement(getCurrentPath());
            Tree above = getCurrentPath().getParentPath().getLeaf();
            boolean isMember = above instanceof ClassTree || above instanceof CompilationUnitTree;
            keeps(2, "no class inside a method", tree, isMember && !tree.getSimpleName().isEmpty());
            keeps(2, "classes inside are static", tree,
                above instanceof CompilationUnitTree || type.getModifiers().contains(Modifier.STATIC));
            classes.add(type);
            return super.visitClass(tree, none);
        }

        @Override
        public Void visitMethod(MethodTree tree, Void none) {
            inside = (ExecutableElement) trees.getElement(getCurrentPath());
            calls.put(inside, new ArrayList<>());
            keeps(3, "what " + tree.getName() + " gives is of a known type", tree, isKnown(inside.getReturnType()));
            keeps(6, tree.getName() + " throws nothing", tree, tree.getThrows().isEmpty());
            keeps(11, tree.getName() + " takes seven at most", tree, tree.getParameters().size() <= 7);
            long first = unit.getLineMap().getLineNumber(trees.getSourcePositions().getStartPosition(unit, tree));
            long last = unit.getLineMap().getLineNumber(trees.getSourcePositions().getEndPosition(unit, tree));
            keeps(11, tree.getName() + " has sixty lines at most", tree, last - first < 60);
            super.visitMethod(tree, none);
            inside = null;
            return none;
        }

        @Override
        public Void visitVariable(VariableTree tree, Void none) {
            Element element = trees.getElement(getCurrentPath());
            keeps(3, tree.getName() + " is of a known type", tree, isKnown(element.asType()));
            if (element.getModifiers().contains(Modifier.STATIC)) {
                String type = element.asType().toString();
                boolean isRow = Set.of("int[]", "long[]", "char[]", "byte[]").contains(type);
                boolean isPlain = Set.of("int", "long", "boolean", "char", "java.lang.String").contains(type);
                keeps(5, tree.getName() + " is final", tree, element.getModifiers().contains(Modifier.FINAL));
                keeps(5, tree.getName() + " is a constant", tree, (isRow || isPlain) && tree.getInitializer() != null);
            }
            return super.visitVariable(tree, none);
        }

        private boolean isKnown(TypeMirror type) {
            String name = type.toString();
            String row = name.endsWith("[]") ? name.substring(0, name.length() - 2) : name;
            return PLAIN_TYPES.contains(row) || row.startsWith("LiftCredit")
                || row.endsWith("[]") && NUMBERS.contains(row.substring(0, row.length() - 2));
        }

        @Override
        public Void visitMethodInvocation(MethodInvocationTree tree, Void none) {
            ExecutableElement to = (ExecutableElement) trees.getElement(getCurrentPath());
            ExpressionTree on = tree.getMethodSelect();
            ExpressionTree from = on instanceof MemberSelectTree ? ((MemberSelectTree) on).getExpression() : null;
            boolean bySuper = from instanceof IdentifierTree
                && ((IdentifierTree) from).getName().contentEquals("super");
            called(tree, to, bySuper, from == null || bySuper);
            return super.visitMethodInvocation(tree, none);
        }

        @Override
        public Void visitNewClass(NewClassTree tree, Void none) {
            ExecutableElement to = (ExecutableElement) trees.getElement(getCurrentPath());
            keeps(2, "no class without a name", tree, tree.getClassBody() == null);
            called(tree, to, false, false);
            return super.visitNewClass(tree, none);
        }

        private void called(Tree tree, ExecutableElement to, boolean bySuper, boolean onThis) {
            String name = to.getEnclosingElement() + "." + to;
            keeps(4, name + " is in the library that is left", tree, isOwn(to) || LIBRARY.contains(name));
            if (inside != null) {
                calls.get(inside).add(new Call(to, bySuper, onThis));
                boolean made = inside.getSimpleName().contentEquals("<init>") && onThis && isOwn(to);
                boolean fixed = to.getModifiers().contains(Modifier.PRIVATE)
                    || to.getModifiers().contains(Modifier.STATIC) || to.getSimpleName().contentEquals("<init>");
                keeps(12, name + " can't be overridden where a constructor calls it", tree, !made || fixed);
            }
        }

        @Override
        public Void visitBinary(BinaryTree tree, Void none) {
            TypeMirror left = trees.getTypeMirror(new TreePath(getCurrentPath(), tree.getLeftOperand()));
            TypeMirror right = trees.getTypeMirror(new TreePath(getCurrentPath(), tree.getRightOperand()));
            boolean texts = isText(left) || isText(right);
            keeps(10, "texts aren't joined by +", tree, tree.getKind() != Tree.Kind.PLUS || !texts);
            boolean same = tree.getKind() == Tree.Kind.EQUAL_TO || tree.getKind() == Tree.Kind.NOT_EQUAL_TO;
            keeps(6, "texts aren't compared by ==", tree, !same || !texts);
            return super.visitBinary(tree, none);
        }

        @Override
        public Void visitCompoundAssignment(CompoundAssignmentTree tree, Void none) {
            TypeMirror type = trees.getTypeMirror(new TreePath(getCurrentPath(), tree.getVariable()));
            keeps(10, "texts aren't joined by +=", tree, !isText(type));
            return super.visitCompoundAssignment(tree, none);
        }

        private boolean isText(TypeMirror type) {
            return type != null && type.toString().equals("java.lang.String");
        }

        @Override
        public Void visitTypeCast(TypeCastTree tree, Void none) {
            TypeMirror to = trees.getTypeMirror(new TreePath(getCurrentPath(), tree.getType()));
            keeps(7, "casts are between numbers", tree, to.getKind().isPrimitive());
            return super.visitTypeCast(tree, none);
        }

        @Override
        public Void visitLiteral(LiteralTree tree, Void none) {
            if (tree.getValue() instanceof String) {
                boolean plain = ((String) tree.getValue()).chars().allMatch(sign -> sign >= 1 && sign <= 127);
                keeps(4, "signs of texts are 1 to 127", tree, plain);
            }
            return super.visitLiteral(tree, none);
        }

        // ---- loops, and what is made

        @Override
        public Void visitWhileLoop(WhileLoopTree tree, Void none) {
            keeps(9, "a loop has an end in its own lines", tree, !tree.getCondition().toString().equals("(true)"));
            return super.visitWhileLoop(tree, none);
        }

        @Override
        public Void visitForLoop(ForLoopTree tree, Void none) {
            keeps(9, "a loop has an end in its own lines", tree,
                tree.getCondition() != null && !tree.getUpdate().isEmpty());
            return super.visitForLoop(tree, none);
        }

        @Override
        public Void visitDoWhileLoop(DoWhileLoopTree tree, Void none) {
            keeps(9, "no loop whose end is looked at last is needed", tree, false);
            return super.visitDoWhileLoop(tree, none);
        }

        @Override
        public Void visitNewArray(NewArrayTree tree, Void none) {
            boolean isField = inside == null;
            keeps(12, "rows are made with their object", tree,
                isField || inside.getSimpleName().contentEquals("<init>"));
            return super.visitNewArray(tree, none);
        }

        // ---- what no place may have

        private Void never(int rule, Tree tree) {
            keeps(rule, "no " + tree.getKind(), tree, false);
            return null;
        }

        @Override
        public Void visitLambdaExpression(LambdaExpressionTree tree, Void none) {
            return never(2, tree);
        }

        @Override
        public Void visitMemberReference(MemberReferenceTree tree, Void none) {
            return never(2, tree);
        }

        @Override
        public Void visitThrow(ThrowTree tree, Void none) {
            return never(6, tree);
        }

        @Override
        public Void visitTry(TryTree tree, Void none) {
            return never(6, tree);
        }

        @Override
        public Void visitSynchronized(SynchronizedTree tree, Void none) {
            return never(6, tree);
        }

        @Override
        public Void visitAssert(AssertTree tree, Void none) {
            return never(6, tree);
        }

        @Override
        public Void visitAnnotation(AnnotationTree tree, Void none) {
            return never(4, tree);
        }
    }

    // ---- how deep calls go: a method is looked at once for each class that may stand behind this

    private static final class Step {
        final TypeElement self;
        final ExecutableElement method;

        Step(TypeElement self, ExecutableElement method) {
            this.self = self;
            this.method = method;
        }

        @Override
        public boolean equals(Object other) {
            return other instanceof Step && ((Step) other).self == self && ((Step) other).method == method;
        }

        @Override
        public int hashCode() {
            return 31 * System.identityHashCode(self) + System.identityHashCode(method);
        }

        @Override
        public String toString() {
            return self.getSimpleName() + "." + method.getSimpleName();
        }
    }

    private final Map<Step, Set<Step>> steps = new HashMap<>();

    private void callsAreNotDeep() {
        for (ExecutableElement method : new ArrayList<>(calls.keySet())) {
            boolean face = method.getEnclosingElement().getSimpleName().contentEquals("LiftCredit");
            if (!face || !method.getModifiers().contains(Modifier.PUBLIC)) {
                continue;
            }
            Step first = new Step((TypeElement) method.getEnclosingElement(), method);
            List<Step> way = deepest(first);
            Due.holds("rule 11: calls go at most eight deep, not " + way, way.size() <= MOST_DEEP);
        }
        Set<String> recursive = new TreeSet<>();
        for (Step step : steps.keySet()) {
            if (leadsTo(step, step)) {
                recursive.add(step.toString());
            }
        }
        Due.holds("rule 8: only the reading of TEXTS calls itself, not " + recursive, recursive.equals(
            Set.of("Law.either", "Law.both", "Law.compared", "Law.sum", "Law.product", "Law.part")));
        // A TEXT opens five signs at the most: six times through all that calls itself.
        Due.holds("rule 8: few calls stand open at once", recursive.size() * 6 + MOST_DEEP < MOST_OPEN_CALLS);
    }

    /** The longest way down; methods that call one another count once, as they are recursion. */
    private List<Step> deepest(Step from) {
        List<Step> best = new ArrayList<>();
        Set<Step> together = new HashSet<>();
        together.add(from);
        for (Step step : reached(from)) {
            if (leadsTo(step, from)) {
                together.add(step);
            }
        }
        for (Step one : together) {
            for (Step next : next(one)) {
                if (!together.contains(next)) {
                    List<Step> way = deepest(next);
                    best = way.size() > best.size() ? way : best;
                }
            }
        }
        best.add(0, from);
        return best;
    }

    private boolean leadsTo(Step from, Step to) {
        return reached(from).contains(to);
    }

    private Set<Step> reached(Step from) {
        Set<Step> reached = new HashSet<>();
        List<Step> waiting = new ArrayList<>(next(from));
        while (!waiting.isEmpty()) {
            Step step = waiting.remove(waiting.size() - 1);
            if (reached.add(step)) {
                waiting.addAll(next(step));
            }
        }
        return reached;
    }

    private Set<Step> next(Step from) {
        Set<Step> known = steps.get(from);
        if (known != null) {
            return known;
        }
        Set<Step> next = new HashSet<>();
        for (Call call : calls.getOrDefault(from.method, List.of())) {
            TypeElement owner = (TypeElement) call.to.getEnclosingElement();
            boolean bound = call.bySuper || !isOwn(call.to) || call.to.getModifiers().contains(Modifier.STATIC)
                || call.to.getModifiers().contains(Modifier.PRIVATE)
                || call.to.getSimpleName().contentEquals("<init>");
            if (bound) {
                next.add(new Step(call.onThis && isOwn(call.to) ? from.self : owner, call.to));
            } else if (call.onThis) {
                next.add(new Step(from.self, bodyIn(from.self, call.to)));
            } else {
                for (TypeElement one : classes) {
                    if (types.isSubtype(one.asType(), owner.asType())) {
                        next.add(new Step(one, bodyIn(one, call.to)));
                    }
                }
            }
        }
        steps.put(from, next);
        return next;
    }

    private ExecutableElement bodyIn(TypeElement type, ExecutableElement called) {
        for (TypeElement at = type; at != null; at = (TypeElement) types.asElement(at.getSuperclass())) {
            for (Element member : at.getEnclosedElements()) {
                if (member instanceof ExecutableElement && member.toString().equals(called.toString())) {
                    return (ExecutableElement) member;
                }
            }
        }
        return called;
    }
}
