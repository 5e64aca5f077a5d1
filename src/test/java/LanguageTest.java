import com.sun.source.tree.ArrayAccessTree;
import com.sun.source.tree.AssertTree;
import com.sun.source.tree.BinaryTree;
import com.sun.source.tree.BlockTree;
import com.sun.source.tree.ClassTree;
import com.sun.source.tree.CompilationUnitTree;
import com.sun.source.tree.CompoundAssignmentTree;
import com.sun.source.tree.ExpressionTree;
import com.sun.source.tree.InstanceOfTree;
import com.sun.source.tree.LambdaExpressionTree;
import com.sun.source.tree.LineMap;
import com.sun.source.tree.LiteralTree;
import com.sun.source.tree.MemberReferenceTree;
import com.sun.source.tree.MemberSelectTree;
import com.sun.source.tree.MethodInvocationTree;
import com.sun.source.tree.MethodTree;
import com.sun.source.tree.NewClassTree;
import com.sun.source.tree.SynchronizedTree;
import com.sun.source.tree.ThrowTree;
import com.sun.source.tree.Tree;
import com.sun.source.tree.TryTree;
import com.sun.source.tree.TypeCastTree;
import com.sun.source.tree.VariableTree;
import com.sun.source.util.JavacTask;
import com.sun.source.util.SourcePositions;
import com.sun.source.util.TreePathScanner;
import com.sun.source.util.Trees;
import java.nio.file.Path;
import java.util.LinkedHashMap;
import java.util.LinkedHashSet;
import java.util.List;
import java.util.Map;
import java.util.Set;
import javax.lang.model.element.Element;
import javax.lang.model.element.ElementKind;
import javax.lang.model.element.Modifier;
import javax.lang.model.type.TypeKind;
import javax.lang.model.type.TypeMirror;
import javax.tools.JavaCompiler;
import javax.tools.StandardJavaFileManager;
import javax.tools.ToolProvider;

/**
 * The rules of ../shared/LANGUAGE.md that a text can be measured by, on the text as the compiler
 * understands it. Where the class does without something that a rule allows (try, casts of objects,
 * recursion), the test asks that it stays without.
 */
public final class LanguageTest extends TreePathScanner<Void, Void> {

    private static final Path PROGRAM = Path.of("src/main/java/Sandglass.java");
    private static final int MOST_CLASSES = 12;
    private static final int MOST_FIELDS = 20;
    private static final int MOST_PARAMETERS = 7;
    private static final int MOST_LINES = 60;
    private static final int DEEPEST = 8;

    private static final Set<String> LISTS = Set.of("add", "get", "set", "remove", "size",
            "isEmpty", "clear");
    private static final Set<String> WHOLE = Set.of("compare", "max", "min", "abs", "bitCount",
            "floorDiv", "floorMod");
    private static final Set<String> EXCEPTIONS = Set.of("IllegalStateException",
            "IllegalArgumentException", "IndexOutOfBoundsException");

    private final Trees trees;
    private final CompilationUnitTree unit;
    private final LineMap lines;
    private final Map<String, Set<String>> calls = new LinkedHashMap<>();
    private int classes;
    private String method = "";
    private String body = "";
    private boolean isInConstructor;

    private LanguageTest(Trees trees, CompilationUnitTree unit) {
        this.trees = trees;
        this.unit = unit;
        lines = unit.getLineMap();
    }

    public static void main(String[] args) throws Exception {
        JavaCompiler compiler = ToolProvider.getSystemJavaCompiler();
        try (StandardJavaFileManager files = compiler.getStandardFileManager(null, null, null)) {
            JavacTask task = (JavacTask) compiler.getTask(null, files, null, List.of("-proc:none"),
                    null, files.getJavaFileObjects(PROGRAM));
            CompilationUnitTree unit = task.parse().iterator().next();
            task.analyze();
            LanguageTest test = new LanguageTest(Trees.instance(task), unit);
            test.scan(unit, null);
            test.sums();
        }
        Check.end();
    }

    private void sums() {
        Check.due("rule 1: one class in the file", 1, unit.getTypeDecls().size());
        Check.due("rule 1: a package line", 1, unit.getPackageName() == null ? 1 : 0);
        atMost("rule 11: classes", MOST_CLASSES, classes);
        Check.due("rule 11: calls of own methods were found", 1, calls.size() > 100 ? 1 : 0);
        for (String each : calls.keySet()) {
            atMost("rules 8 and 11: calls deep from " + each, DEEPEST,
                    deep(each, new LinkedHashSet<>()));
        }
    }

    private static void atMost(String what, long most, long is) {
        Check.due(what + " (at most " + most + "), too many", 0, Math.max(0, is - most));
    }

    /** How many own methods stand open at most, with this one; 999 if one calls itself. */
    private int deep(String each, Set<String> open) {
        if (!open.add(each)) {
            return 999;
        }
        int deepest = 0;
        for (String called : calls.getOrDefault(each, Set.of())) {
            deepest = Math.max(deepest, deep(called, open));
        }
        open.remove(each);
        return deepest + 1;
    }

    // ---- what stands where

    private long line(Tree tree, boolean isEnd) {
        SourcePositions at = trees.getSourcePositions();
        return lines.getLineNumber(isEnd ? at.getEndPosition(unit, tree)
                : at.getStartPosition(unit, tree));
    }

    private void wrong(int rule, Tree tree, String what) {
        Check.fail("rule " + rule + ", line " + line(tree, false) + ": " + what);
    }

    private Element element() {
        return trees.getElement(getCurrentPath());
    }

    private TypeMirror type(Tree tree) {
        return trees.getTypeMirror(trees.getPath(unit, tree));
    }

    private static boolean isOwn(Element e) {
        for (Element at = e; at != null; at = at.getEnclosingElement()) {
            if (at.getKind() == ElementKind.CLASS
                    && at.getSimpleName().contentEquals("Sandglass")) {
                return true;
            }
        }
        return false;
    }

    // ---- classes and members

    @Override
    public Void visitClass(ClassTree tree, Void nothing) {
        classes++;
        boolean isOuter = tree.getSimpleName().contentEquals("Sandglass");
        Set<Modifier> flags = tree.getModifiers().getFlags();
        if (!isOuter && (!flags.contains(Modifier.STATIC) || flags.contains(Modifier.PUBLIC)
                || flags.contains(Modifier.PROTECTED))) {
            wrong(1, tree, "a class inside is private or package-visible and static");
        }
        int fields = 0;
        for (Tree member : tree.getMembers()) {
            if (member instanceof BlockTree) {
                wrong(5, member, "an initialiser block");
            } else if (member instanceof VariableTree) {
                Set<Modifier> own = ((VariableTree) member).getModifiers().getFlags();
                fields += own.contains(Modifier.STATIC) ? 0 : 1;
                if (own.contains(Modifier.STATIC) && !own.contains(Modifier.FINAL)) {
                    wrong(5, member, "a static field that is not final");
                }
                if (own.contains(Modifier.STATIC) && !type(member).getKind().isPrimitive()) {
                    wrong(5, member, "the class has constants that are numbers alone");
                }
            }
        }
        atMost("rule 11: fields of " + tree.getSimpleName(), MOST_FIELDS, fields);
        return super.visitClass(tree, nothing);
    }

    @Override
    public Void visitMethod(MethodTree tree, Void nothing) {
        String outer = method;
        method = name(element());
        body = String.valueOf(tree.getBody());
        isInConstructor = tree.getReturnType() == null;
        calls.computeIfAbsent(method, k -> new LinkedHashSet<>());
        atMost("rule 11: parameters of " + method, MOST_PARAMETERS, tree.getParameters().size());
        atMost("rule 11: lines of " + method, MOST_LINES, line(tree, true) - line(tree, false) + 1);
        if (tree.getReturnType() != null && type(tree.getReturnType()) != null) {
            allowed(tree, type(tree.getReturnType()));
        }
        super.visitMethod(tree, nothing);
        method = outer;
        isInConstructor = false;
        return null;
    }

    private static String name(Element e) {
        return e.getEnclosingElement().getSimpleName() + "." + e;
    }

    // ---- types and the library

    @Override
    public Void visitVariable(VariableTree tree, Void nothing) {
        allowed(tree, element().asType());
        return super.visitVariable(tree, nothing);
    }

    private void allowed(Tree tree, TypeMirror type) {
        String text = type.toString();
        boolean isFine = type.getKind().isPrimitive() || type.getKind() == TypeKind.VOID
                || text.startsWith("Sandglass") || text.equals("java.lang.String")
                || text.matches("(int|long|short|byte|char|boolean|double|float)\\[\\](\\[\\])?")
                || text.matches("java\\.util\\.ArrayList<(Sandglass\\.\\w+|java.lang.Integer)>");
        if (!isFine) {
            wrong(3, tree, "the type " + text);
        }
    }

    @Override
    public Void visitMethodInvocation(MethodInvocationTree tree, Void nothing) {
        Element called = element();
        String at = called.getEnclosingElement().toString();
        String name = called.getSimpleName().toString();
        if (called.getKind() == ElementKind.CONSTRUCTOR) {
            if (!at.equals("java.lang.Object")) {
                wrong(4, tree, "a call of " + at);
            }
        } else if (isOwn(called)) {
            calls.computeIfAbsent(method, k -> new LinkedHashSet<>()).add(name(called));
            if (isInConstructor) {
                wrong(12, tree, "a constructor calls " + name);
            }
        } else if (at.startsWith("java.util.ArrayList")
                && name.matches("get|set|remove")) {
            ExpressionTree list = ((MemberSelectTree) tree.getMethodSelect()).getExpression();
            lookedAt(tree, list + ".size()");
        } else if (!(at.startsWith("java.util.ArrayList") && LISTS.contains(name))
                && !(at.matches("java\\.lang\\.(Math|Integer|Long)") && WHOLE.contains(name))) {
            wrong(4, tree, "a call of " + at + "." + name);
        }
        for (ExpressionTree each : tree.getArguments()) {
            if (at.equals("java.lang.Math") && !isWhole(type(each))) {
                wrong(3, tree, "Math on something that is no whole number");
            }
        }
        return super.visitMethodInvocation(tree, nothing);
    }

    private static boolean isWhole(TypeMirror type) {
        return type.getKind() == TypeKind.INT || type.getKind() == TypeKind.LONG;
    }

    @Override
    public Void visitNewClass(NewClassTree tree, Void nothing) {
        Element made = element();
        String at = made.getEnclosingElement().toString();
        String simple = made.getEnclosingElement().getSimpleName().toString();
        if (tree.getClassBody() != null) {
            wrong(2, tree, "the class has no anonymous class");
        }
        if (isOwn(made)) {
            calls.computeIfAbsent(method, k -> new LinkedHashSet<>()).add(name(made));
        } else if (!at.startsWith("java.util.ArrayList") && !EXCEPTIONS.contains(simple)) {
            wrong(4, tree, "new " + at);
        }
        return super.visitNewClass(tree, nothing);
    }

    // ---- exceptions

    @Override
    public Void visitThrow(ThrowTree tree, Void nothing) {
        boolean isFine = !isInConstructor && tree.getExpression() instanceof NewClassTree;
        if (isFine) {
            NewClassTree made = (NewClassTree) tree.getExpression();
            isFine = EXCEPTIONS.contains(made.getIdentifier().toString());
            for (ExpressionTree text : made.getArguments()) {
                isFine &= text instanceof LiteralTree;
            }
        }
        if (!isFine) {
            wrong(6, tree, tree.toString());
        }
        return super.visitThrow(tree, nothing);
    }

    @Override
    public Void visitTry(TryTree tree, Void nothing) {
        wrong(6, tree, "the class does without try");
        return super.visitTry(tree, nothing);
    }

    // ---- what is banned, and what the class does without

    @Override
    public Void visitLambdaExpression(LambdaExpressionTree tree, Void nothing) {
        wrong(2, tree, "a lambda");
        return super.visitLambdaExpression(tree, nothing);
    }

    @Override
    public Void visitMemberReference(MemberReferenceTree tree, Void nothing) {
        wrong(2, tree, "a method reference");
        return super.visitMemberReference(tree, nothing);
    }

    @Override
    public Void visitSynchronized(SynchronizedTree tree, Void nothing) {
        wrong(6, tree, "synchronized");
        return super.visitSynchronized(tree, nothing);
    }

    @Override
    public Void visitAssert(AssertTree tree, Void nothing) {
        wrong(6, tree, "assert");
        return super.visitAssert(tree, nothing);
    }

    @Override
    public Void visitInstanceOf(InstanceOfTree tree, Void nothing) {
        wrong(6, tree, "the class does without instanceof");
        return super.visitInstanceOf(tree, nothing);
    }

    @Override
    public Void visitTypeCast(TypeCastTree tree, Void nothing) {
        if (!type(tree.getType()).getKind().isPrimitive()) {
            wrong(6, tree, "the class casts numbers alone");
        }
        return super.visitTypeCast(tree, nothing);
    }

    @Override
    public Void visitBinary(BinaryTree tree, Void nothing) {
        noText(tree, tree.getLeftOperand());
        noText(tree, tree.getRightOperand());
        if (tree.getKind() == Tree.Kind.DIVIDE || tree.getKind() == Tree.Kind.REMAINDER) {
            divided(tree, tree.getRightOperand());
        }
        return super.visitBinary(tree, nothing);
    }

    @Override
    public Void visitCompoundAssignment(CompoundAssignmentTree tree, Void nothing) {
        noText(tree, tree.getVariable());
        if (tree.getKind() == Tree.Kind.DIVIDE_ASSIGNMENT
                || tree.getKind() == Tree.Kind.REMAINDER_ASSIGNMENT) {
            divided(tree, tree.getExpression());
        }
        return super.visitCompoundAssignment(tree, nothing);
    }

    private void noText(Tree tree, ExpressionTree part) {
        if (type(part).toString().equals("java.lang.String")) {
            wrong(10, tree, "texts are joined or compared by a sign");
        }
    }

    @Override
    public Void visitArrayAccess(ArrayAccessTree tree, Void nothing) {
        lookedAt(tree, tree.getExpression() + ".length");
        return super.visitArrayAccess(tree, nothing);
    }

    /** The method that uses an index looks, in its own lines, how many there are. */
    private void lookedAt(Tree tree, String howMany) {
        if (!body.contains(howMany)) {
            wrong(7, tree, tree + " without a look at " + howMany);
        }
    }

    /** A divisor is a constant, or stands behind the test that it is above 0. */
    private void divided(Tree tree, ExpressionTree by) {
        String divisor = by.toString().replaceAll("^\\(\\w+\\)", "").strip();
        boolean isConstant = divisor.matches("[1-9]\\d*|[A-Z_]+");
        boolean isTested = getCurrentPath().getParentPath().getLeaf().toString()
                .startsWith(divisor + " > 0 ? ");
        if (!isConstant && !isTested) {
            wrong(7, tree, "divides by " + by);
        }
    }
}
