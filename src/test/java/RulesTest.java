import com.sun.source.tree.AssertTree;
import com.sun.source.tree.BinaryTree;
import com.sun.source.tree.ClassTree;
import com.sun.source.tree.CompilationUnitTree;
import com.sun.source.tree.CompoundAssignmentTree;
import com.sun.source.tree.ExpressionTree;
import com.sun.source.tree.InstanceOfTree;
import com.sun.source.tree.LambdaExpressionTree;
import com.sun.source.tree.MemberReferenceTree;
import com.sun.source.tree.MethodInvocationTree;
import com.sun.source.tree.MethodTree;
import com.sun.source.tree.NewClassTree;
import com.sun.source.tree.SynchronizedTree;
import com.sun.source.tree.ThrowTree;
import com.sun.source.tree.Tree;
import com.sun.source.tree.TryTree;
import com.sun.source.tree.TypeCastTree;
import com.sun.source.tree.VariableTree;
import com.sun.source.util.JavacTask;
import com.sun.source.util.TreePathScanner;
import com.sun.source.util.Trees;
import java.io.IOException;
import java.util.ArrayList;
import java.util.HashMap;
import java.util.HashSet;
import java.util.LinkedHashSet;
import java.util.List;
import java.util.Map;
import java.util.Set;
import javax.lang.model.element.Element;
import javax.lang.model.element.ElementKind;
import javax.lang.model.element.ExecutableElement;
import javax.lang.model.element.Modifier;
import javax.lang.model.type.TypeKind;
import javax.lang.model.type.TypeMirror;
import javax.tools.JavaCompiler;
import javax.tools.StandardJavaFileManager;
import javax.tools.ToolProvider;

/** Rules of LANGUAGE.md that the compiler's own tree of the class tells. Runs in the project's own directory. */
public final class RulesTest extends TreePathScanner<Void, Void> {
    private static final String SOURCE = "src/main/java/GuestPages.java";
    private static final int DEEPEST = 8;
    private static final int MOST_FIELDS = 20;
    private static final int MOST_CLASSES = 12;
    private static final int MOST_LINES = 60;
    private static final int MOST_PARAMETERS = 7;

    /** Rule 4: what the class uses of the library; whoever adds a call looks it up there first. */
    private static final Set<String> LIBRARY = Set.of("java.lang.System.arraycopy", "java.util.Arrays.fill",
            "java.lang.Long.bitCount", "java.lang.String.length", "java.lang.String.charAt");

    /** Rule 3: the types of fields, parameters and variables, beside the class's own. */
    private static final Set<String> TYPES = Set.of("int", "long", "boolean", "byte", "int[]", "long[]", "byte[]",
            "java.lang.String");

    /** Rule 7: divisors that are no numbers of the text, each with a test ahead of it. */
    private static final Set<String> TESTED = Set.of("plan.share", "n");

    /** Rule 6: what the document lets a call throw. */
    private static final Set<String> THROWN = Set.of("new NoSuchElementException()", "new IllegalArgumentException()");

    private final Trees trees;
    private final CompilationUnitTree unit;
    private final Map<Element, Set<Element>> calls = new HashMap<>();
    private final Set<String> faces = new HashSet<>();
    private final List<Element> methods = new ArrayList<>();
    private int classes = 0;
    private int wrong = 0;

    private RulesTest(Trees trees, CompilationUnitTree unit) {
        this.trees = trees;
        this.unit = unit;
    }

    public static void main(String[] args) throws IOException {
        JavaCompiler compiler = ToolProvider.getSystemJavaCompiler();
        StandardJavaFileManager files = compiler.getStandardFileManager(null, null, null);
        JavacTask task = (JavacTask) compiler.getTask(null, files, null, List.of("-proc:none"), null,
                files.getJavaFileObjects(SOURCE));
        CompilationUnitTree unit = task.parse().iterator().next();
        task.analyze();
        RulesTest test = new RulesTest(Trees.instance(task), unit);
        test.scan(unit, null);
        test.end();
    }

    private void end() {
        for (Element method : methods) {
            if (method.getKind() == ElementKind.METHOD && !method.getModifiers().contains(Modifier.PUBLIC)) {
                say(!faces.contains(method.getSimpleName().toString()), null, "rule 1: a public one's name: " + method);
            }
            deepest(method, new LinkedHashSet<>());
        }
        say(classes <= MOST_CLASSES, null, "rule 11: " + classes + " classes");
        System.out.println(wrong == 0 ? "the class keeps to these rules" : "the class does not keep to the rules");
        System.exit(wrong == 0 ? 0 : 1);
    }

    /** Rules 8 and 11: no recursion, eight calls deep at most. */
    private void deepest(Element method, LinkedHashSet<Element> above) {
        if (!above.add(method)) {
            say(false, null, "rule 8: a call of itself: " + above + " " + method);
            return;
        }
        say(above.size() <= DEEPEST, null, "rule 11: too deep: " + above);
        for (Element called : calls.getOrDefault(method, Set.of())) {
            if (above.size() <= DEEPEST) {
                deepest(called, above);
            }
        }
        above.remove(method);
    }

    private void say(boolean good, Tree at, String what) {
        if (!good) {
            wrong++;
            System.out.println((at == null ? "" : "line " + lineAt(trees.getSourcePositions().getStartPosition(unit, at))
                    + ": ") + what);
        }
    }

    private long lineAt(long position) {
        return unit.getLineMap().getLineNumber(position);
    }

    private Element elementOf(Tree tree) {
        return trees.getElement(trees.getPath(unit, tree));
    }

    private MethodTree methodAround() {
        for (var path = getCurrentPath(); path != null; path = path.getParentPath()) {
            if (path.getLeaf() instanceof MethodTree) {
                return (MethodTree) path.getLeaf();
            }
        }
        return null;
    }

    private static boolean isOwn(Element element) {
        Element top = element;
        while (top.getEnclosingElement() != null && top.getEnclosingElement().getKind() != ElementKind.PACKAGE) {
            top = top.getEnclosingElement();
        }
        return top.getSimpleName().contentEquals("GuestPages");
    }

    @Override
    public Void visitClass(ClassTree tree, Void none) {
        classes++;
        Element element = elementOf(tree);
        boolean outer = element.getSimpleName().contentEquals("GuestPages");
        say(outer || element.getModifiers().contains(Modifier.STATIC), tree, "rule 2: not static");
        say(!outer || element.getModifiers().contains(Modifier.FINAL), tree, "rule 1: not final");
        int fields = 0;
        for (Tree member : tree.getMembers()) {
            if (member instanceof VariableTree) {
                Set<Modifier> how = elementOf(member).getModifiers();
                fields += how.contains(Modifier.STATIC) ? 0 : 1;
                say(!how.contains(Modifier.STATIC) || how.contains(Modifier.FINAL), member, "rule 5: static, not final");
            }
            say(member.getKind() != Tree.Kind.BLOCK, member, "rule 5: an initialiser block");
        }
        say(fields <= MOST_FIELDS, tree, "rule 11: " + fields + " fields");
        return super.visitClass(tree, none);
    }

    @Override
    public Void visitMethod(MethodTree tree, Void none) {
        Element method = elementOf(tree);
        String name = method.getSimpleName().toString();
        methods.add(method);
        if (method.getModifiers().contains(Modifier.PUBLIC)) {
            faces.add(name);
        }
        say(!Set.of("equals", "hashCode", "toString").contains(name), tree, "rule 6: " + name);
        say(tree.getParameters().size() <= MOST_PARAMETERS, tree, "rule 11: parameters");
        long from = trees.getSourcePositions().getStartPosition(unit, tree);
        long to = trees.getSourcePositions().getEndPosition(unit, tree);
        say(from < 0 || to < 0 || lineAt(to) - lineAt(from) < MOST_LINES, tree, "rule 11: a long method");
        return super.visitMethod(tree, none);
    }

    @Override
    public Void visitVariable(VariableTree tree, Void none) {
        TypeMirror type = elementOf(tree).asType();
        String name = type.toString();
        say(TYPES.contains(name) || name.startsWith("GuestPages."), tree, "rule 3: a type: " + name);
        return super.visitVariable(tree, none);
    }

    @Override
    public Void visitMethodInvocation(MethodInvocationTree tree, Void none) {
        Element called = elementOf(tree);
        note(called);
        if (!isOwn(called)) {
            String name = called.getEnclosingElement() + "." + called.getSimpleName();
            say(LIBRARY.contains(name) || called.getKind() == ElementKind.CONSTRUCTOR, tree, "rule 4: " + name);
        }
        return super.visitMethodInvocation(tree, none);
    }

    @Override
    public Void visitNewClass(NewClassTree tree, Void none) {
        Element made = elementOf(tree);
        note(made);
        say(tree.getClassBody() == null, tree, "rule 2: a class without a name");
        say(isOwn(made) || made.getEnclosingElement().toString().endsWith("Exception"), tree, "rule 4: " + made);
        return super.visitNewClass(tree, none);
    }

    private void note(Element called) {
        MethodTree around = methodAround();
        if (around != null && isOwn(called) && called instanceof ExecutableElement) {
            calls.computeIfAbsent(elementOf(around), any -> new HashSet<>()).add(called);
        }
    }

    @Override
    public Void visitThrow(ThrowTree tree, Void none) {
        MethodTree around = methodAround();
        say(around != null && around.getReturnType() != null, tree, "rule 6: a throw in a constructor");
        String what = tree.getExpression().toString();
        say(THROWN.contains(what), tree, "rule 6: throw " + what);
        return super.visitThrow(tree, none);
    }

    @Override
    public Void visitBinary(BinaryTree tree, Void none) {
        if (tree.getKind() == Tree.Kind.DIVIDE || tree.getKind() == Tree.Kind.REMAINDER) {
            divides(tree, tree.getRightOperand());
        }
        TypeMirror type = trees.getTypeMirror(getCurrentPath());
        say(type != null && type.getKind() != TypeKind.DECLARED, tree, "rule 10: a text is joined");
        return super.visitBinary(tree, none);
    }

    @Override
    public Void visitCompoundAssignment(CompoundAssignmentTree tree, Void none) {
        if (tree.getKind() == Tree.Kind.DIVIDE_ASSIGNMENT || tree.getKind() == Tree.Kind.REMAINDER_ASSIGNMENT) {
            divides(tree, tree.getExpression());
        }
        return super.visitCompoundAssignment(tree, none);
    }

    private void divides(Tree tree, ExpressionTree divisor) {
        String text = divisor.toString();
        say(text.matches("[1-9][0-9]*|\\(ACTS \\+ 1\\)") || TESTED.contains(text), tree, "rule 7: a divisor: " + text);
    }

    @Override
    public Void visitLambdaExpression(LambdaExpressionTree tree, Void none) {
        say(false, tree, "rule 2: a lambda");
        return super.visitLambdaExpression(tree, none);
    }

    @Override
    public Void visitMemberReference(MemberReferenceTree tree, Void none) {
        say(false, tree, "rule 2: a method reference");
        return super.visitMemberReference(tree, none);
    }

    @Override
    public Void visitTry(TryTree tree, Void none) {
        say(false, tree, "nothing is caught in the class");
        return super.visitTry(tree, none);
    }

    @Override
    public Void visitSynchronized(SynchronizedTree tree, Void none) {
        say(false, tree, "rule 6: synchronized");
        return super.visitSynchronized(tree, none);
    }

    @Override
    public Void visitAssert(AssertTree tree, Void none) {
        say(false, tree, "rule 6: assert");
        return super.visitAssert(tree, none);
    }

    @Override
    public Void visitInstanceOf(InstanceOfTree tree, Void none) {
        say(false, tree, "a kind is asked for; the casts behind it want a test");
        return super.visitInstanceOf(tree, none);
    }

    @Override
    public Void visitTypeCast(TypeCastTree tree, Void none) {
        TypeMirror type = trees.getTypeMirror(getCurrentPath());
        say(type != null && type.getKind().isPrimitive(), tree, "rule 6: a cast");
        return super.visitTypeCast(tree, none);
    }
}
