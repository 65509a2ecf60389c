import com.sun.source.tree.ArrayAccessTree;
import com.sun.source.tree.AssignmentTree;
import com.sun.source.tree.BinaryTree;
import com.sun.source.tree.BlockTree;
import com.sun.source.tree.BreakTree;
import com.sun.source.tree.ClassTree;
import com.sun.source.tree.CompilationUnitTree;
import com.sun.source.tree.CompoundAssignmentTree;
import com.sun.source.tree.ConditionalExpressionTree;
import com.sun.source.tree.ContinueTree;
import com.sun.source.tree.DoWhileLoopTree;
import com.sun.source.tree.ExpressionTree;
import com.sun.source.tree.ForLoopTree;
import com.sun.source.tree.IdentifierTree;
import com.sun.source.tree.IfTree;
import com.sun.source.tree.InstanceOfTree;
import com.sun.source.tree.MethodInvocationTree;
import com.sun.source.tree.MethodTree;
import com.sun.source.tree.NewArrayTree;
import com.sun.source.tree.NewClassTree;
import com.sun.source.tree.ParenthesizedTree;
import com.sun.source.tree.ReturnTree;
import com.sun.source.tree.StatementTree;
import com.sun.source.tree.Tree;
import com.sun.source.tree.TypeCastTree;
import com.sun.source.tree.UnaryTree;
import com.sun.source.tree.VariableTree;
import com.sun.source.tree.WhileLoopTree;
import com.sun.source.util.JavacTask;
import com.sun.source.util.TreePath;
import com.sun.source.util.TreePathScanner;
import com.sun.source.util.TreeScanner;
import com.sun.source.util.Trees;
import java.nio.file.Files;
import java.nio.file.Path;
import java.util.ArrayList;
import java.util.HashMap;
import java.util.HashSet;
import java.util.List;
import java.util.Map;
import java.util.Set;
import java.util.TreeMap;
import java.util.TreeSet;
import javax.lang.model.element.Element;
import javax.lang.model.element.ElementKind;
import javax.lang.model.element.ExecutableElement;
import javax.lang.model.element.Modifier;
import javax.lang.model.element.VariableElement;
import javax.lang.model.type.ArrayType;
import javax.lang.model.type.TypeKind;
import javax.lang.model.type.TypeMirror;
import javax.tools.JavaCompiler;
import javax.tools.SimpleJavaFileObject;
import javax.tools.ToolProvider;

/**
 * The rules of LANGUAGE.md that need types and who calls whom: 3, 5, 6, 7 (divisors and indices), 8, 9, 11, 12.
 * Each rule is put to small programs that break it, too, so that a rule that sees nothing is seen.
 */
public final class LanguageRulesTest {
    private static final Path SOURCE = Path.of("src/main/java/RaddleMarks.java");
    private static final int MOST_DEEP = 8;

    private static int wrong;

    public static void main(String[] args) throws Exception {
        for (String fault : faultsOf(Files.readString(SOURCE))) {
            wrong++;
            System.out.println("language: " + fault);
        }
        askThatBreachesAreSeen();
        System.out.println(wrong == 0 ? "language, its rules: all is as due" : "language, its rules: " + wrong + " wrong");
        if (wrong != 0) {
            System.exit(1);
        }
    }

    // ---- what a rule must see

    private static void askThatBreachesAreSeen() throws Exception {
        seen("", "int f(int a) { return a; }");
        seen("rule 3", "int f() { Object o = null; return 1; }");
        seen("rule 3", "private final int[][][] rows = null;");
        seen("rule 3", "private final Part[][] parts = null;");
        seen("rule 5", "private static int count = 0;");
        seen("rule 5", "private static final double HALF = 0.5;");
        seen("rule 5", "private static final int[] ROW = new int[3];");
        seen("rule 5", "private static final int[] ROW = {1, 2}; void f() { for (int i = 0; i < 2; i++) { ROW[i] = 0; } }");
        seen("", "private static final int[] ROW = {1, 2}; int f(int i) { return i == 0 ? ROW[i] : 0; }");
        seen("rule 6", "boolean f(String a, String b) { return a == b; }");
        seen("", "boolean f(Part a) { return a == null; }");
        seen("rule 6", "int f(Object o) { return ((Part) o).size; }");
        seen("rule 7", "int f(int a, int b) { return a / b; }");
        seen("rule 7", "int f(int a, int b) { a %= b; return a; }");
        seen("", "int f(int a, int b) { return b == 0 ? 0 : a / b; }");
        seen("", "int f(int a) { return a / 7; }");
        seen("rule 7", "int f(int a) { return a / 0; }");
        seen("rule 7", "int f(int[] row, int i) { return row[i]; }");
        seen("rule 7", "int f(int[] row, int i) { int v = row[i]; return i < 3 ? v : 0; }");
        seen("rule 7", "int f(int[] row, int i) { int v = i < 3 ? 1 : 0; return v + row[i]; }");
        seen("rule 7", "int f(int[] row, int i) { if (i > 3) { i--; } return row[i]; }");
        seen("", "int f(int[] row, int i) { return i >= 0 && i < row.length && row[i] > 0 ? 1 : 0; }");
        seen("rule 7", "int f(int a, int b) { switch (a) { case 1: return b == 0 ? 1 : 2; default: return a / b; } }");
        seen("", "int f(int[] row, int i) { if (i < 0 || i >= row.length) { return 0; } return row[i]; }");
        seen("rule 8", "private int f(int a) { return a > 9 ? 0 : f(a + 1); }");
        seen("rule 8", "private int f(int a) { return g(a); } private int g(int a) { return a < 0 ? 0 : f(a - 1); }");
        seen("", "private int f(int open) { return open > 9 ? 0 : f(open + 1); }");
        seen("rule 8", "private int f(int open) { return f(open + 1); }");
        seen("rule 8", "private int f(int open) { return f(open + 1) > 3 ? 1 : 0; }");
        seen("rule 9", "void f() { while (true) { } }");
        seen("rule 9", "void f(int a) { for (;;) { a++; } }");
        seen("rule 9", "void f(int a, int b) { while (a < 9) { b++; } }");
        seen("rule 9", "void f(int a) { do { } while (a != 3); }");
        seen("", "void f(int a) { while (a < 9 && a != 4) { a++; } }");
        seen("rule 11", "void a() { b(); } void b() { c(); } void c() { d(); } void d() { e(); } void e() { f(); } "
            + "void f() { g(); } void g() { h(); } void h() { i(); } void i() { }");
        seen("", "void a() { b(); } void b() { c(); } void c() { d(); } void d() { e(); } void e() { f(); } "
            + "void f() { g(); } void g() { h(); } void h() { }");
        seen("rule 12", "int f() { Part part = new Part(); return part.size; }");
        seen("rule 12", "int f() { int[] row = new int[2]; return row.length; }");
    }

    private static void seen(String rule, String members) throws Exception {
        List<String> faults = faultsOf("public final class RaddleMarks { " + members
            + " private static final class Part { int size; } }");
        boolean isSeen = faults.stream().anyMatch(f -> f.startsWith(rule + ":"));
        if (rule.isEmpty() ? !faults.isEmpty() : !isSeen) {
            wrong++;
            System.out.println("a breach of " + rule + " was seen wrongly in " + members + ": " + faults);
        }
    }

    private static List<String> faultsOf(String text) throws Exception {
        JavaCompiler compiler = ToolProvider.getSystemJavaCompiler();
        JavacTask task = (JavacTask) compiler.getTask(null, null, null, List.of("-proc:none"), null, List.of(new Text(text)));
        List<String> faults = new ArrayList<>();
        Trees trees = Trees.instance(task);
        for (CompilationUnitTree unit : task.parse()) {
            task.analyze();
            Walk walk = new Walk(trees, unit, faults);
            walk.scan(unit, null);
            new Calls(walk.calls, walk.guarded, faults).ask();
        }
        return faults;
    }

    private static final class Text extends SimpleJavaFileObject {
        private final String text;

        Text(String text) {
            super(java.net.URI.create("string:///RaddleMarks.java"), Kind.SOURCE);
            this.text = text;
        }

        @Override public CharSequence getCharContent(boolean ignoreEncodingErrors) {
            return text;
        }
    }

    // ---- rules that are seen on the way through the source

    private static final class Walk extends TreePathScanner<Void, Void> {
        final Map<String, Set<String>> calls = new TreeMap<>();
        /** Methods that hold the argument open against a bound. */
        final Set<String> guarded = new HashSet<>();
        private final Trees trees;
        private final CompilationUnitTree unit;
        private final List<String> faults;
        private String method = "";
        private boolean isConstructor;
        private Set<Element> asked = new HashSet<>();

        Walk(Trees trees, CompilationUnitTree unit, List<String> faults) {
            this.trees = trees;
            this.unit = unit;
            this.faults = faults;
        }

        private void fault(int rule, Tree tree) {
            long place = trees.getSourcePositions().getStartPosition(unit, tree);
            faults.add("rule " + rule + ": line " + unit.getLineMap().getLineNumber(place) + ", " + tree);
        }

        private Element element(Tree tree) {
            return trees.getElement(new TreePath(getCurrentPath(), tree));
        }

        private TypeMirror type(Tree tree) {
            return trees.getTypeMirror(new TreePath(getCurrentPath(), tree));
        }

        private static boolean isOwn(TypeMirror type) {
            String name = type.toString();
            return type.getKind() == TypeKind.DECLARED && (name.equals("RaddleMarks") || name.startsWith("RaddleMarks."));
        }

        private static boolean isAllowed(TypeMirror type) {
            if (type.getKind().isPrimitive() || type.getKind() == TypeKind.VOID || isOwn(type)) {
                return true;
            }
            if (type.toString().equals("java.lang.String")) {
                return true;
            }
            if (!(type instanceof ArrayType)) {
                return false;
            }
            TypeMirror of = ((ArrayType) type).getComponentType();
            boolean isTable = of instanceof ArrayType && ((ArrayType) of).getComponentType().getKind().isPrimitive();
            return of.getKind().isPrimitive() || isOwn(of) || isTable;
        }

        @Override public Void visitClass(ClassTree tree, Void v) {
            method = "";
            return super.visitClass(tree, v);
        }

        @Override public Void visitMethod(MethodTree tree, Void v) {
            ExecutableElement made = (ExecutableElement) trees.getElement(getCurrentPath());
            method = nameOf(made);
            isConstructor = made.getKind() == ElementKind.CONSTRUCTOR;
            asked = new HashSet<>();
            calls.putIfAbsent(method, new TreeSet<>());
            if (!isAllowed(made.getReturnType())) {
                fault(3, tree);
            }
            super.visitMethod(tree, v);
            method = "";
            return null;
        }

        private static String nameOf(Element called) {
            return called.getEnclosingElement().getSimpleName() + "." + called.getSimpleName();
        }

        @Override public Void visitVariable(VariableTree tree, Void v) {
            VariableElement made = (VariableElement) trees.getElement(getCurrentPath());
            if (!isAllowed(made.asType())) {
                fault(3, tree);
            }
            if (made.getModifiers().contains(Modifier.STATIC)) {
                askStatic(made, tree);
            }
            return super.visitVariable(tree, v);
        }

        private void askStatic(VariableElement made, VariableTree tree) {
            boolean isWrittenOut = tree.getInitializer() instanceof NewArrayTree row && row.getInitializers() != null;
            boolean isRow = List.of("int[]", "long[]", "char[]", "byte[]").contains(made.asType().toString());
            boolean isConstant = List.of("int", "long", "boolean", "char", "java.lang.String").contains(made.asType().toString());
            boolean isFinal = made.getModifiers().contains(Modifier.FINAL);
            if (!isFinal || !(isRow ? isWrittenOut : isConstant && made.getConstantValue() != null)) {
                fault(5, tree);
            }
        }

        @Override public Void visitInstanceOf(InstanceOfTree tree, Void v) {
            if (!isOwn(type(tree.getExpression()))) {
                fault(6, tree);
            }
            return super.visitInstanceOf(tree, v);
        }

        @Override public Void visitTypeCast(TypeCastTree tree, Void v) {
            if (!type(tree.getType()).getKind().isPrimitive()) {
                fault(6, tree);
            }
            return super.visitTypeCast(tree, v);
        }

        @Override public Void visitBinary(BinaryTree tree, Void v) {
            switch (tree.getKind()) {
                case EQUAL_TO:
                case NOT_EQUAL_TO:
                    if (!isComparable(tree.getLeftOperand()) || !isComparable(tree.getRightOperand())) {
                        fault(6, tree);
                    }
                    break;
                case DIVIDE:
                case REMAINDER:
                    askDivisor(tree, tree.getRightOperand());
                    break;
                case CONDITIONAL_AND:
                case CONDITIONAL_OR:
                    scan(tree.getLeftOperand(), v);
                    scanBehind(tree.getLeftOperand(), tree.getRightOperand());
                    return null;
                case LESS_THAN:
                case LESS_THAN_EQUAL:
                case GREATER_THAN:
                case GREATER_THAN_EQUAL:
                    if (tree.getLeftOperand().toString().equals("open")) {
                        guarded.add(method);
                    }
                    break;
                default:
                    break;
            }
            return super.visitBinary(tree, v);
        }

        private boolean isComparable(Tree operand) {
            TypeMirror is = type(operand);
            return is.getKind().isPrimitive() || is.getKind() == TypeKind.NULL || isOwn(is);
        }

        @Override public Void visitCompoundAssignment(CompoundAssignmentTree tree, Void v) {
            if (tree.getKind() == Tree.Kind.DIVIDE_ASSIGNMENT || tree.getKind() == Tree.Kind.REMAINDER_ASSIGNMENT) {
                askDivisor(tree, tree.getExpression());
            }
            askNoConstantIsChanged(tree, tree.getVariable());
            return super.visitCompoundAssignment(tree, v);
        }

        @Override public Void visitAssignment(AssignmentTree tree, Void v) {
            askNoConstantIsChanged(tree, tree.getVariable());
            return super.visitAssignment(tree, v);
        }

        private void askNoConstantIsChanged(Tree tree, Tree changed) {
            if (changed instanceof ArrayAccessTree access) {
                Element row = element(access.getExpression());
                if (row != null && row.getModifiers().contains(Modifier.STATIC)) {
                    fault(5, tree);
                }
            }
        }

        private void askDivisor(Tree tree, ExpressionTree divisor) {
            Element named = element(divisor);
            Object constant = named instanceof VariableElement of ? of.getConstantValue() : null;
            boolean isNumber = divisor.getKind() == Tree.Kind.INT_LITERAL && !divisor.toString().equals("0");
            boolean isConstant = constant instanceof Integer worth && worth != 0;
            boolean isAsked = named != null && asked.contains(named);
            if (!isNumber && !isConstant && !isAsked) {
                fault(7, tree);
            }
        }

        @Override public Void visitArrayAccess(ArrayAccessTree tree, Void v) {
            for (Element name : namesIn(tree.getIndex())) {
                boolean isConstant = name instanceof VariableElement of && of.getConstantValue() != null;
                if (!isConstant && !asked.contains(name)) {
                    fault(7, tree);
                }
            }
            return super.visitArrayAccess(tree, v);
        }

        /** Variables that an expression looks at. */
        private Set<Element> namesIn(Tree tree) {
            Set<Element> names = new HashSet<>();
            if (tree == null) {
                return names;
            }
            TreePath from = new TreePath(getCurrentPath(), tree);
            new TreePathScanner<Void, Void>() {
                @Override public Void visitIdentifier(IdentifierTree one, Void v) {
                    Element is = trees.getElement(getCurrentPath());
                    if (is instanceof VariableElement) {
                        names.add(is);
                    }
                    return null;
                }
            }.scan(from, null);
            return names;
        }

        // ---- what has been asked: behind a condition its variables are looked at

        /** Trees that are reached only by way of a condition; what it asked is forgotten behind them. */
        private void scanBehind(Tree condition, Tree... trees) {
            Set<Element> ahead = new HashSet<>(asked);
            asked.addAll(namesIn(condition));
            for (Tree tree : trees) {
                scan(tree, null);
            }
            asked = ahead;
        }

        @Override public Void visitIf(IfTree tree, Void v) {
            scan(tree.getCondition(), v);
            scanBehind(tree.getCondition(), tree.getThenStatement(), tree.getElseStatement());
            if (leaves(tree.getThenStatement())) {
                asked.addAll(namesIn(tree.getCondition()));
            }
            return null;
        }

        private static boolean leaves(StatementTree statement) {
            if (statement instanceof BlockTree block) {
                int size = block.getStatements().size();
                return size > 0 && leaves(block.getStatements().get(size - 1));
            }
            return statement instanceof ReturnTree || statement instanceof ContinueTree || statement instanceof BreakTree;
        }

        @Override public Void visitConditionalExpression(ConditionalExpressionTree tree, Void v) {
            scan(tree.getCondition(), v);
            scanBehind(tree.getCondition(), tree.getTrueExpression(), tree.getFalseExpression());
            return null;
        }

        // ---- loops

        @Override public Void visitForLoop(ForLoopTree tree, Void v) {
            scan(tree.getInitializer(), v);
            askLoop(tree, tree.getCondition());
            scan(tree.getCondition(), v);
            scanBehind(tree.getCondition(), tree.getStatement());
            scan(tree.getUpdate(), v);
            return null;
        }

        @Override public Void visitWhileLoop(WhileLoopTree tree, Void v) {
            askLoop(tree, tree.getCondition());
            scan(tree.getCondition(), v);
            scanBehind(tree.getCondition(), tree.getStatement());
            return null;
        }

        @Override public Void visitDoWhileLoop(DoWhileLoopTree tree, Void v) {
            askLoop(tree, tree.getCondition());
            return super.visitDoWhileLoop(tree, v);
        }

        /** A counter that the loop moves must stand against a bound in its condition, joined by && alone. */
        private void askLoop(Tree loop, ExpressionTree condition) {
            Set<String> moved = new HashSet<>();
            new TreeScanner<Void, Void>() {
                @Override public Void visitUnary(UnaryTree tree, Void v) {
                    if (tree.getKind().name().contains("CREMENT")) {
                        moved.add(tree.getExpression().toString());
                    }
                    return super.visitUnary(tree, v);
                }
            }.scan(loop, null);
            if (!hasBound(condition, moved)) {
                fault(9, loop);
            }
        }

        private static boolean hasBound(ExpressionTree condition, Set<String> moved) {
            if (condition instanceof ParenthesizedTree inner) {
                return hasBound(inner.getExpression(), moved);
            }
            if (!(condition instanceof BinaryTree both)) {
                return false;
            }
            switch (both.getKind()) {
                case CONDITIONAL_AND:
                    return hasBound(both.getLeftOperand(), moved) || hasBound(both.getRightOperand(), moved);
                case LESS_THAN:
                case LESS_THAN_EQUAL:
                case GREATER_THAN:
                case GREATER_THAN_EQUAL:
                    return moved.contains(both.getLeftOperand().toString());
                default:
                    return false;
            }
        }

        // ---- calls and objects

        @Override public Void visitMethodInvocation(MethodInvocationTree tree, Void v) {
            Element called = element(tree.getMethodSelect());
            if (called != null && !method.isEmpty()) {
                calls.get(method).add(nameOf(called));
            }
            return super.visitMethodInvocation(tree, v);
        }

        @Override public Void visitNewClass(NewClassTree tree, Void v) {
            askWhereMade(tree);
            if (!isOwn(type(tree))) {
                fault(4, tree);
            }
            return super.visitNewClass(tree, v);
        }

        @Override public Void visitNewArray(NewArrayTree tree, Void v) {
            askWhereMade(tree);
            return super.visitNewArray(tree, v);
        }

        /** Stricter than the rule, as NOTES.md says: what a run makes is made in constructors. */
        private void askWhereMade(Tree tree) {
            if (!method.isEmpty() && !isConstructor) {
                fault(12, tree);
            }
        }
    }

    // ---- who calls whom

    private static final class Calls {
        private final Map<String, Set<String>> calls;
        private final Set<String> guarded;
        private final List<String> faults;
        private final Map<String, Set<String>> reached = new HashMap<>();
        private final Map<String, Integer> deep = new HashMap<>();

        Calls(Map<String, Set<String>> calls, Set<String> guarded, List<String> faults) {
            this.calls = calls;
            this.guarded = guarded;
            this.faults = faults;
        }

        void ask() {
            for (String one : calls.keySet()) {
                reached.put(one, reachedFrom(one));
            }
            for (String one : calls.keySet()) {
                askRecursion(one);
                if (depthOf(one) > MOST_DEEP) {
                    faults.add("rule 11: calls from " + one + " go " + depthOf(one) + " deep");
                }
            }
        }

        private Set<String> reachedFrom(String one) {
            Set<String> all = new TreeSet<>();
            List<String> left = new ArrayList<>(calls.get(one));
            while (!left.isEmpty()) {
                String next = left.remove(left.size() - 1);
                if (all.add(next)) {
                    left.addAll(calls.getOrDefault(next, Set.of()));
                }
            }
            return all;
        }

        private boolean areInOneRing(String one, String other) {
            return reached.get(one).contains(other) && reached.getOrDefault(other, Set.of()).contains(one);
        }

        /** In every ring of methods that call one another, one must ask how many stand open. */
        private void askRecursion(String one) {
            if (!reached.get(one).contains(one)) {
                return;
            }
            boolean isGuarded = guarded.contains(one)
                || reached.get(one).stream().anyMatch(other -> guarded.contains(other) && areInOneRing(one, other));
            if (!isGuarded) {
                faults.add("rule 8: " + one + " calls itself, and nothing asks how many stand open");
            }
        }

        /** How many stand open below, a ring of recursion counted as one; calls of the library stand for nothing. */
        private int depthOf(String one) {
            if (!calls.containsKey(one)) {
                return 0;
            }
            if (deep.containsKey(one)) {
                return deep.get(one);
            }
            int most = 0;
            for (String next : outOfRing(one)) {
                most = Math.max(most, depthOf(next));
            }
            deep.put(one, 1 + most);
            return 1 + most;
        }

        private Set<String> outOfRing(String one) {
            Set<String> next = new TreeSet<>(calls.get(one));
            for (String other : reached.get(one)) {
                if (areInOneRing(one, other)) {
                    next.addAll(calls.getOrDefault(other, Set.of()));
                }
            }
            next.removeIf(other -> other.equals(one) || areInOneRing(one, other));
            return next;
        }
    }
}
