import com.sun.source.tree.AssertTree;
import com.sun.source.tree.CatchTree;
import com.sun.source.tree.ClassTree;
import com.sun.source.tree.CompilationUnitTree;
import com.sun.source.tree.ImportTree;
import com.sun.source.tree.LambdaExpressionTree;
import com.sun.source.tree.MemberReferenceTree;
import com.sun.source.tree.MethodInvocationTree;
import com.sun.source.tree.MethodTree;
import com.sun.source.tree.PackageTree;
import com.sun.source.tree.SynchronizedTree;
import com.sun.source.tree.ThrowTree;
import com.sun.source.tree.Tree;
import com.sun.source.tree.TryTree;
import com.sun.source.tree.VariableTree;
import com.sun.source.util.JavacTask;
import com.sun.source.util.SourcePositions;
import com.sun.source.util.TreeScanner;
import com.sun.source.util.Trees;
import java.lang.reflect.Constructor;
import java.lang.reflect.Field;
import java.lang.reflect.Method;
import java.lang.reflect.Modifier;
import java.nio.file.Files;
import java.nio.file.Path;
import java.util.Arrays;
import java.util.HashSet;
import java.util.List;
import java.util.Set;
import java.util.TreeSet;
import javax.tools.JavaCompiler;
import javax.tools.StandardJavaFileManager;
import javax.tools.ToolProvider;

/** What of LANGUAGE.md can be seen from the source and the class: the face, the library, sizes, what is barred. */
public final class LanguageTest {
    private static final Path SOURCE = Path.of("src/main/java/RaddleMarks.java");
    private static final String FACE = "snow(int,int) ofCell(int,int) seeker(int,int) ofSeeker(int,int) send(int,int,int) "
        + "sheep(int,int,int,int) ofSheep(int,int) change(int,int,int) become(int,int) as(int,int) feed(long,int) "
        + "text(int) law(int,int,int,int) hours(int) loose(int) then(int,int,int) when(int) saved() add(int,int) "
        + "start(int,int,int) missed(int,int) nobody() lies(int,int,int) order(int) strong(int,int,int) "
        + "odds(int,int,int) seed(int) voice(int,int,int) trace(int) sheet(int,int,int) put(int,int,int) "
        + "move(int,int,int,int,int) snows(int) judge(int) image() restore() tell(int) check() count(int) told(int)";
    private static final Set<String> LIBRARY = Set.of("Math.max", "Math.min", "Math.abs", "Integer.bitCount",
        "System.arraycopy");

    private static int wrong;

    private static void dueTrue(boolean is, String rule) {
        if (!is) {
            wrong++;
            System.out.println("language: " + rule);
        }
    }

    public static void main(String[] args) throws Exception {
        askFace();
        askSigns();
        askTrees();
        System.out.println(wrong == 0 ? "language: all is as due" : "language: " + wrong + " wrong");
        if (wrong != 0) {
            System.exit(1);
        }
    }

    private static void askFace() {
        Class<RaddleMarks> c = RaddleMarks.class;
        dueTrue(Modifier.isFinal(c.getModifiers()) && Modifier.isPublic(c.getModifiers()), "rule 1: public and final");
        Set<String> is = new TreeSet<>();
        Set<String> hidden = new HashSet<>();
        for (Method m : c.getDeclaredMethods()) {
            if (Modifier.isPublic(m.getModifiers())) {
                String types = Arrays.toString(Arrays.stream(m.getParameterTypes()).map(Class::getName).toArray());
                is.add(m.getName() + types.replace(" ", "").replace('[', '(').replace(']', ')'));
                dueTrue(m.getReturnType() == int.class, "rule 1: " + m.getName() + " answers an int");
            } else {
                hidden.add(m.getName());
                dueTrue(Modifier.isPrivate(m.getModifiers()), "rule 1: " + m.getName() + " is private");
            }
        }
        dueTrue(is.equals(new TreeSet<>(List.of(FACE.split(" ")))), "rule 1: the face is " + is);
        for (Class<?> inside : c.getDeclaredClasses()) {
            dueTrue(Modifier.isStatic(inside.getModifiers()), "rule 2: " + inside + " is static");
            Arrays.stream(inside.getDeclaredMethods()).forEach(m -> hidden.add(m.getName()));
        }
        for (String name : hidden) {
            dueTrue(is.stream().noneMatch(f -> f.startsWith(name + "(")), "rule 1: " + name + " bears a public name");
        }
        for (Field f : c.getDeclaredFields()) {
            dueTrue(Modifier.isPrivate(f.getModifiers()), "rule 1: field " + f.getName() + " is private");
        }
        Constructor<?>[] made = c.getDeclaredConstructors();
        dueTrue(made.length == 1 && made[0].getParameterCount() == 0 && Modifier.isPublic(made[0].getModifiers()),
            "rule 1: one public constructor");
    }

    private static void askSigns() throws Exception {
        for (byte b : Files.readAllBytes(SOURCE)) {
            dueTrue(b > 0, "rule 4: signs are 1 to 127");
        }
    }

    private static void askTrees() throws Exception {
        JavaCompiler compiler = ToolProvider.getSystemJavaCompiler();
        try (StandardJavaFileManager files = compiler.getStandardFileManager(null, null, null)) {
            JavacTask task = (JavacTask) compiler.getTask(null, files, null, null, null, files.getJavaFileObjects(SOURCE));
            SourcePositions places = Trees.instance(task).getSourcePositions();
            for (CompilationUnitTree unit : task.parse()) {
                Walk walk = new Walk(unit, places);
                walk.scan(unit, null);
                dueTrue(walk.classes <= 12, "rule 11: " + walk.classes + " classes");
            }
        }
    }

    private static final class Walk extends TreeScanner<Void, Void> {
        private final CompilationUnitTree unit;
        private final SourcePositions places;
        private int classes;
        private String method = "";

        Walk(CompilationUnitTree unit, SourcePositions places) {
            this.unit = unit;
            this.places = places;
        }

        private long line(Tree tree) {
            return unit.getLineMap().getLineNumber(places.getStartPosition(unit, tree));
        }

        private Void bar(Tree tree, String rule) {
            dueTrue(false, rule + ", line " + line(tree));
            return null;
        }

        @Override public Void visitClass(ClassTree tree, Void v) {
            classes++;
            int fields = 0;
            for (Tree member : tree.getMembers()) {
                if (member instanceof VariableTree field) {
                    boolean isStatic = field.getModifiers().getFlags().contains(javax.lang.model.element.Modifier.STATIC);
                    boolean isFinal = field.getModifiers().getFlags().contains(javax.lang.model.element.Modifier.FINAL);
                    fields += isStatic ? 0 : 1;
                    dueTrue(!isStatic || isFinal, "rule 5: " + field.getName() + " is final");
                }
                dueTrue(member.getKind() != Tree.Kind.BLOCK, "rule 5: no initialiser block");
            }
            dueTrue(fields <= 20, "rule 11: " + fields + " fields in " + tree.getSimpleName());
            dueTrue(!tree.getSimpleName().isEmpty(), "rule 2: no class without a name");
            return super.visitClass(tree, v);
        }

        @Override public Void visitMethod(MethodTree tree, Void v) {
            method = tree.getName().toString();
            long lines = unit.getLineMap().getLineNumber(places.getEndPosition(unit, tree)) - line(tree) + 1;
            dueTrue(lines <= 60, "rule 11: " + method + " has " + lines + " lines");
            dueTrue(tree.getParameters().size() <= 7, "rule 11: parameters of " + method);
            dueTrue(!List.of("equals", "hashCode", "toString").contains(method), "rule 6: " + method);
            return super.visitMethod(tree, v);
        }

        @Override public Void visitMethodInvocation(MethodInvocationTree tree, Void v) {
            String called = tree.getMethodSelect().toString();
            boolean isLibrary = Character.isUpperCase(called.charAt(0));
            dueTrue(!isLibrary || LIBRARY.contains(called), "rule 4: " + called + " in " + method);
            return super.visitMethodInvocation(tree, v);
        }

        @Override public Void visitImport(ImportTree tree, Void v) {
            return bar(tree, "rule 4: no import is needed");
        }

        @Override public Void visitPackage(PackageTree tree, Void v) {
            return bar(tree, "no package line");
        }

        @Override public Void visitThrow(ThrowTree tree, Void v) {
            return bar(tree, "rule 6: throw");
        }

        @Override public Void visitTry(TryTree tree, Void v) {
            return bar(tree, "rule 6: try");
        }

        @Override public Void visitCatch(CatchTree tree, Void v) {
            return bar(tree, "rule 6: catch");
        }

        @Override public Void visitSynchronized(SynchronizedTree tree, Void v) {
            return bar(tree, "rule 6: synchronized");
        }

        @Override public Void visitAssert(AssertTree tree, Void v) {
            return bar(tree, "rule 6: assert");
        }

        @Override public Void visitLambdaExpression(LambdaExpressionTree tree, Void v) {
            return bar(tree, "rule 2: lambda");
        }

        @Override public Void visitMemberReference(MemberReferenceTree tree, Void v) {
            return bar(tree, "rule 2: method reference");
        }
    }
}
