import com.sun.source.tree.AssertTree;
import com.sun.source.tree.BinaryTree;
import com.sun.source.tree.ClassTree;
import com.sun.source.tree.CompilationUnitTree;
import com.sun.source.tree.DoWhileLoopTree;
import com.sun.source.tree.ExpressionTree;
import com.sun.source.tree.ForLoopTree;
import com.sun.source.tree.IdentifierTree;
import com.sun.source.tree.LambdaExpressionTree;
import com.sun.source.tree.MemberReferenceTree;
import com.sun.source.tree.MethodInvocationTree;
import com.sun.source.tree.MethodTree;
import com.sun.source.tree.NewArrayTree;
import com.sun.source.tree.NewClassTree;
import com.sun.source.tree.ParenthesizedTree;
import com.sun.source.tree.SynchronizedTree;
import com.sun.source.tree.ThrowTree;
import com.sun.source.tree.Tree;
import com.sun.source.tree.TryTree;
import com.sun.source.tree.VariableTree;
import com.sun.source.tree.WhileLoopTree;
import com.sun.source.util.JavacTask;
import com.sun.source.util.TreePath;
import com.sun.source.util.TreePathScanner;
import com.sun.source.util.Trees;
import java.io.IOException;
import java.net.URI;
import java.util.ArrayList;
import java.util.LinkedHashMap;
import java.util.LinkedHashSet;
import java.util.List;
import java.util.Map;
import java.util.Set;
import javax.lang.model.element.Element;
import javax.lang.model.element.ElementKind;
import javax.lang.model.element.ExecutableElement;
import javax.lang.model.element.Modifier;
import javax.lang.model.type.ArrayType;
import javax.lang.model.type.TypeMirror;
import javax.tools.JavaCompiler;
import javax.tools.JavaFileObject;
import javax.tools.SimpleJavaFileObject;
import javax.tools.ToolProvider;

/**
 * Looks a source through as the compiler understands it, and tells what breaks a rule of LANGUAGE.md,
 * each fault behind its rule's number. It is stricter than the rules where this program is plainer
 * than they allow: no call makes an object, and the library is Math.max, Math.min and System.arraycopy.
 */
final class Form extends TreePathScanner<Void, Void> {
    private static final int DEEPEST = 8;
    private static final Set<String> LIBRARY = Set.of("java.lang.Math.max", "java.lang.Math.min",
            "java.lang.System.arraycopy");

    private final Trees trees;
    private final List<String> faults = new ArrayList<>();
    private final Map<ExecutableElement, Set<ExecutableElement>> calls = new LinkedHashMap<>();
    private ExecutableElement open = null;

    private Form(Trees trees) {
        this.trees = trees;
    }

    static List<String> faultsOf(String source) throws IOException {
        JavaCompiler compiler = ToolProvider.getSystemJavaCompiler();
        JavaFileObject file = new SimpleJavaFileObject(URI.create("string:///PaintedLines.java"),
                JavaFileObject.Kind.SOURCE) {
            @Override
            public CharSequence getCharContent(boolean ignoreEncodingErrors) {
                return source;
            }
        };
        JavacTask task = (JavacTask) compiler.getTask(null, null, null, null, null, List.of(file));
        Iterable<? extends CompilationUnitTree> units = task.parse();
        task.analyze();
        Form form = new Form(Trees.instance(task));
        for (CompilationUnitTree unit : units) {
            form.scan(new TreePath(unit), null);
        }
        form.lookAtDepths();
        return form.faults;
    }

    private void fault(int rule, String what) {
        faults.add(rule + ": " + (open == null ? "" : nameOf(open) + ": ") + what);
    }

    private static String nameOf(ExecutableElement method) {
        return method.getEnclosingElement().getSimpleName() + "." + method.getSimpleName();
    }

    private Element element(Tree tree) {
        return trees.getElement(new TreePath(getCurrentPath(), tree));
    }

    private static boolean isOwn(Element type) {
        return type.toString().startsWith("PaintedLines");
    }

    // ---- rules 2 and 6: what there is not

    @Override
    public Void visitLambdaExpression(LambdaExpressionTree tree, Void none) {
        fault(2, "a lambda");
        return super.visitLambdaExpression(tree, none);
    }

    @Override
    public Void visitMemberReference(MemberReferenceTree tree, Void none) {
        fault(2, "a method reference");
        return super.visitMemberReference(tree, none);
    }

    @Override
    public Void visitThrow(ThrowTree tree, Void none) {
        fault(6, "throw");
        return super.visitThrow(tree, none);
    }

    @Override
    public Void visitTry(TryTree tree, Void none) {
        fault(6, "try");
        return super.visitTry(tree, none);
    }

    @Override
    public Void visitSynchronized(SynchronizedTree tree, Void none) {
        fault(6, "synchronized");
        return super.visitSynchronized(tree, none);
    }

    @Override
    public Void visitAssert(AssertTree tree, Void none) {
        fault(6, "assert");
        return super.visitAssert(tree, none);
    }

    @Override
    public Void visitClass(ClassTree tree, Void none) {
        Set<Modifier> modifiers = tree.getModifiers().getFlags();
        boolean isInside = getCurrentPath().getParentPath().getLeaf() instanceof ClassTree;
        if (isInside ? !modifiers.contains(Modifier.STATIC) : !tree.getSimpleName().contentEquals("PaintedLines")) {
            fault(2, "a class " + tree.getSimpleName() + " that is not static inside the one of the document");
        }
        return super.visitClass(tree, none);
    }

    // ---- rules 3 and 4: types and the library

    @Override
    public Void visitVariable(VariableTree tree, Void none) {
        Element variable = trees.getElement(getCurrentPath());
        TypeMirror type = variable.asType();
        TypeMirror inner = type instanceof ArrayType array ? array.getComponentType() : type;
        if (!inner.getKind().isPrimitive() && !inner.toString().startsWith("PaintedLines")) {
            fault(3, tree.getName() + " is a " + type);
        }
        if (variable.getKind() == ElementKind.FIELD && variable.getModifiers().contains(Modifier.STATIC)
                && !variable.getModifiers().contains(Modifier.FINAL)) {
            fault(5, tree.getName() + " is static and not final");
        }
        return super.visitVariable(tree, none);
    }

    @Override
    public Void visitMethodInvocation(MethodInvocationTree tree, Void none) {
        ExecutableElement called = (ExecutableElement) trees.getElement(getCurrentPath());
        Element owner = called.getEnclosingElement();
        // The compiler's own super() of each constructor is seen as a call, too.
        boolean isSuper = called.getKind() == ElementKind.CONSTRUCTOR;
        if (isOwn(owner)) {
            if (open != null) {
                calls.get(open).add(called);
            }
        } else if (!isSuper && !LIBRARY.contains(owner + "." + called.getSimpleName())) {
            fault(4, owner + "." + called.getSimpleName());
        }
        if (isInConstructor()) {
            handsOutNothing(tree.getArguments());
            if (isOwn(owner) && !isFixed(called)) {
                fault(12, "a constructor calls " + called.getSimpleName() + ", which could be overridden");
            }
        }
        return super.visitMethodInvocation(tree, none);
    }

    // ---- rules 8 and 11: how deep calls go

    @Override
    public Void visitMethod(MethodTree tree, Void none) {
        ExecutableElement before = open;
        open = (ExecutableElement) trees.getElement(getCurrentPath());
        calls.put(open, new LinkedHashSet<>());
        if (tree.getParameters().size() > 7) {
            fault(11, "more than seven parameters");
        }
        super.visitMethod(tree, none);
        open = before;
        return null;
    }

    private void lookAtDepths() {
        Map<ExecutableElement, Integer> depths = new LinkedHashMap<>();
        for (ExecutableElement method : calls.keySet()) {
            int depth = depth(method, new ArrayList<>(), depths);
            if (depth > DEEPEST) {
                fault(11, nameOf(method) + " goes " + depth + " calls deep");
            }
        }
    }

    private int depth(ExecutableElement method, List<ExecutableElement> above, Map<ExecutableElement, Integer> known) {
        if (above.contains(method)) {
            fault(8, nameOf(method) + " comes to call itself");
            return 0;
        }
        if (known.containsKey(method)) {
            return known.get(method);
        }
        above.add(method);
        int deepest = 0;
        for (ExecutableElement called : calls.getOrDefault(method, Set.of())) {
            deepest = Math.max(deepest, depth(called, above, known));
        }
        above.remove(above.size() - 1);
        known.put(method, deepest + 1);
        return deepest + 1;
    }

    // ---- rule 9: loops

    @Override
    public Void visitForLoop(ForLoopTree tree, Void none) {
        loop(tree.getCondition());
        return super.visitForLoop(tree, none);
    }

    @Override
    public Void visitWhileLoop(WhileLoopTree tree, Void none) {
        loop(tree.getCondition());
        return super.visitWhileLoop(tree, none);
    }

    @Override
    public Void visitDoWhileLoop(DoWhileLoopTree tree, Void none) {
        loop(tree.getCondition());
        return super.visitDoWhileLoop(tree, none);
    }

    /** A bound that must hold, so none that is only one side of an or. */
    private void loop(ExpressionTree condition) {
        if (condition == null || !bounds(condition)) {
            fault(9, "a loop without a counter against a bound: " + condition);
        }
    }

    private static boolean bounds(Tree condition) {
        if (condition instanceof ParenthesizedTree inner) {
            return bounds(inner.getExpression());
        }
        if (!(condition instanceof BinaryTree pair)) {
            return false;
        }
        return switch (pair.getKind()) {
            case LESS_THAN, LESS_THAN_EQUAL, GREATER_THAN, GREATER_THAN_EQUAL -> true;
            case CONDITIONAL_AND -> bounds(pair.getLeftOperand()) || bounds(pair.getRightOperand());
            default -> false;
        };
    }

    // ---- rule 12: what is made, and what constructors hand out

    @Override
    public Void visitNewClass(NewClassTree tree, Void none) {
        if (tree.getClassBody() != null) {
            fault(2, "an anonymous class");
        }
        made(String.valueOf(tree.getIdentifier()));
        if (isInConstructor()) {
            handsOutNothing(tree.getArguments());
        }
        ExecutableElement called = (ExecutableElement) trees.getElement(getCurrentPath());
        if (open != null && isOwn(called.getEnclosingElement())) {
            calls.get(open).add(called);
        }
        return super.visitNewClass(tree, none);
    }

    @Override
    public Void visitNewArray(NewArrayTree tree, Void none) {
        made("an array");
        return super.visitNewArray(tree, none);
    }

    private void made(String what) {
        if (open != null && !isInConstructor()) {
            fault(12, "a call makes " + what);
        }
    }

    private boolean isInConstructor() {
        return open != null && open.getKind() == ElementKind.CONSTRUCTOR;
    }

    private static boolean isFixed(ExecutableElement called) {
        Set<Modifier> owner = called.getEnclosingElement().getModifiers();
        Set<Modifier> own = called.getModifiers();
        return owner.contains(Modifier.FINAL) || own.contains(Modifier.PRIVATE) || own.contains(Modifier.STATIC)
                || own.contains(Modifier.FINAL) || called.getKind() == ElementKind.CONSTRUCTOR;
    }

    /** Neither the object that is made nor what one of its fields holds. */
    private void handsOutNothing(List<? extends ExpressionTree> arguments) {
        for (ExpressionTree argument : arguments) {
            Element handed = element(argument);
            String name = String.valueOf(argument);
            boolean isField = handed != null && handed.getKind() == ElementKind.FIELD
                    && !handed.getModifiers().contains(Modifier.STATIC)
                    && handed.getEnclosingElement().equals(open.getEnclosingElement())
                    && (argument instanceof IdentifierTree || name.startsWith("this."));
            if (name.equals("this") || isField && !handed.asType().getKind().isPrimitive()) {
                fault(12, "a constructor hands out " + name);
            }
        }
    }
}
