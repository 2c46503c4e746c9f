import com.sun.source.tree.BinaryTree;
import com.sun.source.tree.ClassTree;
import com.sun.source.tree.CompilationUnitTree;
import com.sun.source.tree.ForLoopTree;
import com.sun.source.tree.MethodInvocationTree;
import com.sun.source.tree.MethodTree;
import com.sun.source.tree.Tree;
import com.sun.source.tree.TypeCastTree;
import com.sun.source.tree.VariableTree;
import com.sun.source.util.JavacTask;
import com.sun.source.util.TreePathScanner;
import com.sun.source.util.Trees;
import java.io.IOException;
import java.nio.file.Path;
import java.util.ArrayList;
import java.util.LinkedHashMap;
import java.util.LinkedHashSet;
import java.util.List;
import java.util.Map;
import java.util.Set;
import javax.lang.model.element.Element;
import javax.lang.model.element.ExecutableElement;
import javax.lang.model.element.Modifier;
import javax.lang.model.element.TypeElement;
import javax.lang.model.type.TypeMirror;
import javax.tools.JavaCompiler;
import javax.tools.StandardJavaFileManager;
import javax.tools.ToolProvider;

/** Rules of ../shared/LANGUAGE.md that want the class as the compiler reads it: who calls whom, and what is of which type. */
public final class RulesTest {
    private static final int DEEPEST = 8;

    /** Rule 4, as far as the class uses it. */
    private static final Set<String> LIBRARY = Set.of("java.lang.Math.max", "java.lang.Math.min",
        "java.lang.Integer.bitCount", "java.lang.System.arraycopy", "java.lang.Object.<init>");

    /** Divisors that are no constants: both of tremble(), where they are looked at ahead of the division. */
    private static final Set<String> DIVISORS = Set.of("rest", "shared");

    private static final Check check = new Check();

    private final Trees trees;
    private final Map<Element, Set<Element>> calls = new LinkedHashMap<>();

    private RulesTest(Trees trees) {
        this.trees = trees;
    }

    public static void main(String[] args) throws IOException {
        JavaCompiler compiler = ToolProvider.getSystemJavaCompiler();
        try (StandardJavaFileManager files = compiler.getStandardFileManager(null, null, null)) {
            JavacTask task = (JavacTask) compiler.getTask(null, files, null, List.of("-proc:none"), null,
                files.getJavaFileObjects(Path.of("src/main/java/SignDuty.java")));
            Iterable<? extends CompilationUnitTree> units = task.parse();
            task.analyze();
            RulesTest rules = new RulesTest(Trees.instance(task));
            for (CompilationUnitTree unit : units) {
                check.due("classes of the file, but those inside", unit.getTypeDecls().size(), 1);
                rules.new Walk().scan(unit, null);
            }
            rules.recursion();
            rules.depth();
        }
        check.end();
    }

    private static void holds(String rule, boolean is) {
        check.due(rule, is ? 1 : 0, 1);
    }

    /** Looks at each place of the class once, and gathers who calls whom. */
    private final class Walk extends TreePathScanner<Void, Void> {
        private Element method = null;

        @Override public Void visitClass(ClassTree tree, Void none) {
            holds("a class with a name: " + tree, !tree.getSimpleName().isEmpty());
            return super.visitClass(tree, none);
        }

        @Override public Void visitMethod(MethodTree tree, Void none) {
            method = trees.getElement(getCurrentPath());
            calls.put(method, new LinkedHashSet<>());
            super.visitMethod(tree, none);
            method = null;
            return null;
        }

        @Override public Void visitVariable(VariableTree tree, Void none) {
            holds("type of " + tree, isTold(trees.getElement(getCurrentPath()).asType()));
            return super.visitVariable(tree, none);
        }

        @Override public Void visitForLoop(ForLoopTree tree, Void none) {
            holds("a bound and a counter: " + tree, tree.getCondition() != null && tree.getUpdate().size() == 1);
            return super.visitForLoop(tree, none);
        }

        @Override public Void visitTypeCast(TypeCastTree tree, Void none) {
            holds("a cast of numbers: " + tree, trees.getTypeMirror(getCurrentPath()).getKind().isPrimitive());
            return super.visitTypeCast(tree, none);
        }

        @Override public Void visitBinary(BinaryTree tree, Void none) {
            holds("of numbers: " + tree, trees.getTypeMirror(getCurrentPath()).getKind().isPrimitive());
            if (tree.getKind() == Tree.Kind.DIVIDE || tree.getKind() == Tree.Kind.REMAINDER) {
                String divisor = tree.getRightOperand().toString();
                boolean isConstant = divisor.matches("[1-9][0-9]*") || divisor.equals("KEPT");
                holds("divisor of " + tree, isConstant || DIVISORS.contains(divisor));
            }
            return super.visitBinary(tree, none);
        }

        @Override public Void visitMethodInvocation(MethodInvocationTree tree, Void none) {
            Element called = trees.getElement(getCurrentPath());
            TypeElement owner = (TypeElement) called.getEnclosingElement();
            String name = owner.getQualifiedName() + "." + called.getSimpleName();
            boolean isOwn = name.startsWith("SignDuty.");
            holds("of the library: " + name, isOwn || LIBRARY.contains(name));
            if (isOwn && method != null) {
                calls.get(method).add(called);
            }
            return super.visitMethodInvocation(tree, none);
        }
    }

    /** Rule 3: numbers, arrays of them in one or two dimensions, own classes, and arrays of those in one. */
    private static boolean isTold(TypeMirror type) {
        String name = type.toString();
        String bare = name.replace("[]", "");
        int dimensions = (name.length() - bare.length()) / 2;
        boolean isNumber = bare.equals("int") || bare.equals("boolean");
        return isNumber && dimensions <= 2 || bare.startsWith("SignDuty.") && dimensions <= 1;
    }

    private Set<Element> reachedFrom(Element method) {
        Set<Element> reached = new LinkedHashSet<>();
        List<Element> open = new ArrayList<>(calls.get(method));
        while (!open.isEmpty()) {
            Element next = open.remove(open.size() - 1);
            if (reached.add(next)) {
                open.addAll(calls.get(next));
            }
        }
        return reached;
    }

    /** Rule 8: a private static method may call itself, private methods one another; the depth is an argument. */
    private void recursion() {
        for (Element method : calls.keySet()) {
            if (reachedFrom(method).contains(method)) {
                Set<Modifier> modifiers = method.getModifiers();
                boolean callsItself = calls.get(method).contains(method);
                holds("private, as it comes back to itself: " + method, modifiers.contains(Modifier.PRIVATE));
                holds("static, as it calls itself: " + method, !callsItself || modifiers.contains(Modifier.STATIC));
                holds("carries its depth: " + method, carriesDepth((ExecutableElement) method));
            }
        }
    }

    /** tremble() goes as deep as there are streets, so its depth is the street. */
    private static boolean carriesDepth(ExecutableElement method) {
        Set<String> depths = Set.of("depth", "street");
        return method.getParameters().stream().anyMatch(one -> depths.contains(one.getSimpleName().toString()));
    }

    /** Rule 11: calls that are no recursion go at most eight deep. */
    private void depth() {
        for (Element method : calls.keySet()) {
            if (method.getModifiers().contains(Modifier.PUBLIC)) {
                int deep = deepest(method, Set.of());
                holds(method + " goes " + deep + " deep", deep <= DEEPEST);
            }
        }
    }

    /** The longest way down on which no method comes twice. */
    private int deepest(Element method, Set<Element> above) {
        Set<Element> here = new LinkedHashSet<>(above);
        here.add(method);
        int most = 0;
        for (Element called : calls.get(method)) {
            if (!here.contains(called)) {
                most = Math.max(most, deepest(called, here));
            }
        }
        return most + 1;
    }
}
